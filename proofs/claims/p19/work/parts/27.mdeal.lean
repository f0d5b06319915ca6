section WR
variable {p : Program} {l : Launch} {e : Env} {R : Room} {s : State} {m : MethodId} {args : Array Value} {below : List Frame} {meth : Method} {c : Code} {H : Heap} {locs : List Loc} {cells slots : Nat} {Q : State → Prop}
variable {pc : Nat} {ls : Array Slot} {rest : List Value} {G : GG} {ws : va_W} {A : Nat → Prop} {y0 : MethodName} {b0 : ByteArray} {mL0 : Nat} {rt0 : Option FieldType} {a : Nat} {H0 : Heap}
end WR
/-- what a kind tells of its shelf -/
def KO1 (x : Int32) (y : Int32) (k : Nat) (B : Nat) : Prop := x = nI k ∧ ∃ j, j < B ∧ y = nI j
theorem KO1.mk {x x2 y y2 : Int32} {k B kk : Nat} (hB : kk ≤ B) (hk : kk < 2 ^ 31) (ex : x2 = x) (ey : y2 = y) (c : x2 = nI k) (h : Hs y2 kk) : KO1 x y k B := by
  obtain ⟨j, hj, e⟩ := Hs_nat hk h
  exact ⟨ex.symm.trans c, j, by omega, ey.symm.trans e⟩
/-- the first n alike -/
def AG (n : Nat) (f g : Nat → Int32) : Prop := ∀ i, i < n → g i = f i
theorem AG.zero {f g : Nat → Int32} : AG 0 f g := fun i h => absurd h (Nat.not_lt_zero i)
theorem AG.next {n : Nat} {f g : Nat → Int32} {x : Int32} (h : AG n f g) (hx : x = f n) : AG (n + 1) f (upd g n x) := by
  intro i hi
  unfold upd
  by_cases c : i = n
  · rw [if_pos c, hx, c]
  · rw [if_neg c]; exact h i (by omega)
theorem AG.SC {f g : Nat → Int32} (h : AG 1662 f g) : SCX g (f 0) (f 1) (f 2) (f 3) (f 4) (f 5) (f 6) (f 8) (f 9) (f 10) (f 11) := SCX.rf.ag fun i h1 _ => h i (by omega)
theorem AG.NI {f g : Nat → Int32} (h : AG 1662 f g) (hN : NI f) : NI g := by
  intro i
  by_cases c : i < 1662
  · rw [h i c]; exact hN i
  · rw [bnd_end (by omega)]
    exact ⟨ti_lo _, ti_hi _⟩
theorem AG.VI {f g : Nat → Int32} (h : AG 1662 f g) (hV : VI f) : VI g := by
  intro v hv
  exact VOK.ext (fun j hj => (h _ (by omega)).symm) (hV v hv)
section WR
variable {p : Program} {l : Launch} {e : Env} {R : Room} {s : State} {m : MethodId} {args : Array Value} {below : List Frame} {meth : Method} {c : Code} {H : Heap} {locs : List Loc} {cells slots : Nat} {Q : State → Prop}
variable {pc : Nat} {ls : Array Slot} {rest : List Value} {G : GG} {ws : va_W} {A : Nat → Prop} {y0 : MethodName} {b0 : ByteArray} {mL0 : Nat} {rt0 : Option FieldType} {a : Nat} {H0 : Heap}
theorem gX12_kindOn_0 : (decode cX12_kindOn 0 = .ok (.aload_n 0, 1)) ∧ (decode cX12_kindOn 1 = .ok (.getfield 75, 3)) ∧ (decode cX12_kindOn 4 = .ok (.iload_n 1, 1)) ∧ (decode cX12_kindOn 5 = .ok (.iaload, 1)) ∧ (decode cX12_kindOn 6 = .ok (.istore_n 2, 1)) ∧ (decode cX12_kindOn 7 = .ok (.aload_n 0, 1)) ∧ (decode cX12_kindOn 8 = .ok (.getfield 72, 3)) ∧ (decode cX12_kindOn 11 = .ok (.iload_n 1, 1)) ∧ (decode cX12_kindOn 12 = .ok (.iaload, 1)) ∧ (decode cX12_kindOn 13 = .ok (.tableswitch 145 1 3 #[27, 98, 128], 27)) := by decide +kernel
theorem gX12_kindOn_1 : (decode cX12_kindOn 40 = .ok (.aload_n 0, 1)) ∧ (decode cX12_kindOn 41 = .ok (.iload_n 2, 1)) ∧ (decode cX12_kindOn 42 = .ok (.iconst 5, 1)) ∧ (decode cX12_kindOn 43 = .ok (.invokevirtual 120, 3)) ∧ (decode cX12_kindOn 46 = .ok (.ifCond .eq 27, 3)) ∧ (decode cX12_kindOn 49 = .ok (.aload_n 0, 1)) ∧ (decode cX12_kindOn 50 = .ok (.iload_n 2, 1)) ∧ (decode cX12_kindOn 51 = .ok (.iconst 1, 1)) ∧ (decode cX12_kindOn 52 = .ok (.invokevirtual 88, 3)) ∧ (decode cX12_kindOn 55 = .ok (.iconst 1, 1)) := by decide +kernel
theorem gX12_kindOn_2 : (decode cX12_kindOn 56 = .ok (.aload_n 0, 1)) ∧ (decode cX12_kindOn 57 = .ok (.iload_n 2, 1)) ∧ (decode cX12_kindOn 58 = .ok (.iconst 0, 1)) ∧ (decode cX12_kindOn 59 = .ok (.invokevirtual 88, 3)) ∧ (decode cX12_kindOn 62 = .ok (.ishl, 1)) ∧ (decode cX12_kindOn 63 = .ok (.iconst (-1), 1)) ∧ (decode cX12_kindOn 64 = .ok (.ixor, 1)) ∧ (decode cX12_kindOn 65 = .ok (.iand, 1)) ∧ (decode cX12_kindOn 66 = .ok (.ifCond .eq 7, 3)) ∧ (decode cX12_kindOn 69 = .ok (.iconst 1, 1)) := by decide +kernel
theorem gX12_kindOn_3 : (decode cX12_kindOn 70 = .ok (.goto 4, 3)) ∧ (decode cX12_kindOn 73 = .ok (.iconst 0, 1)) ∧ (decode cX12_kindOn 74 = .ok (.istore_n 3, 1)) ∧ (decode cX12_kindOn 75 = .ok (.aload_n 0, 1)) ∧ (decode cX12_kindOn 76 = .ok (.iload_n 2, 1)) ∧ (decode cX12_kindOn 77 = .ok (.iconst 5, 1)) ∧ (decode cX12_kindOn 78 = .ok (.invokevirtual 120, 3)) ∧ (decode cX12_kindOn 81 = .ok (.ifCond .ne 7, 3)) ∧ (decode cX12_kindOn 84 = .ok (.iconst (-1), 1)) ∧ (decode cX12_kindOn 85 = .ok (.goto 25, 3)) := by decide +kernel
theorem gX12_kindOn_4 : (decode cX12_kindOn 88 = .ok (.iload_n 3, 1)) ∧ (decode cX12_kindOn 89 = .ok (.ifCond .ne 7, 3)) ∧ (decode cX12_kindOn 92 = .ok (.iconst 2, 1)) ∧ (decode cX12_kindOn 93 = .ok (.goto 17, 3)) ∧ (decode cX12_kindOn 96 = .ok (.aload_n 0, 1)) ∧ (decode cX12_kindOn 97 = .ok (.iload_n 2, 1)) ∧ (decode cX12_kindOn 98 = .ok (.iconst 3, 1)) ∧ (decode cX12_kindOn 99 = .ok (.invokevirtual 88, 3)) ∧ (decode cX12_kindOn 102 = .ok (.ifCond .le 7, 3)) ∧ (decode cX12_kindOn 105 = .ok (.iconst 3, 1)) := by decide +kernel
theorem gX12_kindOn_5 : (decode cX12_kindOn 106 = .ok (.goto 4, 3)) ∧ (decode cX12_kindOn 109 = .ok (.iconst 1, 1)) ∧ (decode cX12_kindOn 110 = .ok (.ireturn, 1)) ∧ (decode cX12_kindOn 111 = .ok (.aload_n 0, 1)) ∧ (decode cX12_kindOn 112 = .ok (.iload_n 2, 1)) ∧ (decode cX12_kindOn 113 = .ok (.bipush 8, 2)) ∧ (decode cX12_kindOn 115 = .ok (.invokevirtual 120, 3)) ∧ (decode cX12_kindOn 118 = .ok (.ifCond .ne 7, 3)) ∧ (decode cX12_kindOn 121 = .ok (.iconst (-1), 1)) ∧ (decode cX12_kindOn 122 = .ok (.goto 18, 3)) := by decide +kernel
theorem gX12_kindOn_6 : (decode cX12_kindOn 125 = .ok (.aload_n 0, 1)) ∧ (decode cX12_kindOn 126 = .ok (.iload_n 2, 1)) ∧ (decode cX12_kindOn 127 = .ok (.bipush 6, 2)) ∧ (decode cX12_kindOn 129 = .ok (.invokevirtual 114, 3)) ∧ (decode cX12_kindOn 132 = .ok (.ifCond .ge 7, 3)) ∧ (decode cX12_kindOn 135 = .ok (.iconst 5, 1)) ∧ (decode cX12_kindOn 136 = .ok (.goto 4, 3)) ∧ (decode cX12_kindOn 139 = .ok (.iconst 4, 1)) ∧ (decode cX12_kindOn 140 = .ok (.ireturn, 1)) ∧ (decode cX12_kindOn 141 = .ok (.aload_n 0, 1)) := by decide +kernel
theorem gX12_kindOn_7 : (decode cX12_kindOn 142 = .ok (.iload_n 2, 1)) ∧ (decode cX12_kindOn 143 = .ok (.bipush 9, 2)) ∧ (decode cX12_kindOn 145 = .ok (.invokevirtual 120, 3)) ∧ (decode cX12_kindOn 148 = .ok (.ifCond .eq 8, 3)) ∧ (decode cX12_kindOn 151 = .ok (.bipush 6, 2)) ∧ (decode cX12_kindOn 153 = .ok (.goto 4, 3)) ∧ (decode cX12_kindOn 156 = .ok (.iconst (-1), 1)) ∧ (decode cX12_kindOn 157 = .ok (.ireturn, 1)) ∧ (decode cX12_kindOn 158 = .ok (.iconst (-1), 1)) ∧ (decode cX12_kindOn 159 = .ok (.ireturn, 1)) := by decide +kernel
theorem sw_1_3 {x : Int32} : ¬ x = 1 → ¬ x = 2 → ¬ x = 3 →  (x.toInt < 1 ∨ 3 < x.toInt) := by
  intros
  simp only [← Int32.toInt_inj] at *
  have hk : ∀ k : Int, x.toInt = k → x.toInt = k := fun _ h => h
  have k1 : (1 : Int32).toInt = 1 := by decide
  have k2 : (2 : Int32).toInt = 2 := by decide
  have k3 : (3 : Int32).toInt = 3 := by decide
  omega
theorem gX12_above_0 : (decode cX12_above 0 = .ok (.iload_n 0, 1)) ∧ (decode cX12_above 1 = .ok (.iconst 3, 1)) ∧ (decode cX12_above 2 = .ok (.if_icmp .ne 7, 3)) ∧ (decode cX12_above 5 = .ok (.iconst 1, 1)) ∧ (decode cX12_above 6 = .ok (.goto 21, 3)) ∧ (decode cX12_above 9 = .ok (.iload_n 0, 1)) ∧ (decode cX12_above 10 = .ok (.iconst 5, 1)) ∧ (decode cX12_above 11 = .ok (.if_icmp .ne 7, 3)) ∧ (decode cX12_above 14 = .ok (.iconst 4, 1)) ∧ (decode cX12_above 15 = .ok (.goto 12, 3)) := by decide +kernel
theorem gX12_above_1 : (decode cX12_above 18 = .ok (.iload_n 0, 1)) ∧ (decode cX12_above 19 = .ok (.ifCond .ne 7, 3)) ∧ (decode cX12_above 22 = .ok (.iconst (-1), 1)) ∧ (decode cX12_above 23 = .ok (.goto 4, 3)) ∧ (decode cX12_above 26 = .ok (.iconst 0, 1)) ∧ (decode cX12_above 27 = .ok (.ireturn, 1)) := by decide +kernel
theorem gX12_hasOwn_0 : (decode cX12_hasOwn 0 = .ok (.iload_n 0, 1)) ∧ (decode cX12_hasOwn 1 = .ok (.tableswitch 94 0 5 #[39, 41, 52, 63, 79, 79], 39)) ∧ (decode cX12_hasOwn 40 = .ok (.iconst 1, 1)) ∧ (decode cX12_hasOwn 41 = .ok (.ireturn, 1)) ∧ (decode cX12_hasOwn 42 = .ok (.iload_n 1, 1)) ∧ (decode cX12_hasOwn 43 = .ok (.iconst 1, 1)) ∧ (decode cX12_hasOwn 44 = .ok (.if_icmp .ne 7, 3)) ∧ (decode cX12_hasOwn 47 = .ok (.iconst 1, 1)) ∧ (decode cX12_hasOwn 48 = .ok (.goto 4, 3)) ∧ (decode cX12_hasOwn 51 = .ok (.iconst 0, 1)) := by decide +kernel
theorem gX12_hasOwn_1 : (decode cX12_hasOwn 52 = .ok (.ireturn, 1)) ∧ (decode cX12_hasOwn 53 = .ok (.iload_n 1, 1)) ∧ (decode cX12_hasOwn 54 = .ok (.iconst 2, 1)) ∧ (decode cX12_hasOwn 55 = .ok (.if_icmp .ne 7, 3)) ∧ (decode cX12_hasOwn 58 = .ok (.iconst 1, 1)) ∧ (decode cX12_hasOwn 59 = .ok (.goto 4, 3)) ∧ (decode cX12_hasOwn 62 = .ok (.iconst 0, 1)) ∧ (decode cX12_hasOwn 63 = .ok (.ireturn, 1)) ∧ (decode cX12_hasOwn 64 = .ok (.iload_n 1, 1)) ∧ (decode cX12_hasOwn 65 = .ok (.iconst 1, 1)) := by decide +kernel
theorem gX12_hasOwn_2 : (decode cX12_hasOwn 66 = .ok (.if_icmp .eq 8, 3)) ∧ (decode cX12_hasOwn 69 = .ok (.iload_n 1, 1)) ∧ (decode cX12_hasOwn 70 = .ok (.iconst 3, 1)) ∧ (decode cX12_hasOwn 71 = .ok (.if_icmp .ne 7, 3)) ∧ (decode cX12_hasOwn 74 = .ok (.iconst 1, 1)) ∧ (decode cX12_hasOwn 75 = .ok (.goto 4, 3)) ∧ (decode cX12_hasOwn 78 = .ok (.iconst 0, 1)) ∧ (decode cX12_hasOwn 79 = .ok (.ireturn, 1)) ∧ (decode cX12_hasOwn 80 = .ok (.iload_n 1, 1)) ∧ (decode cX12_hasOwn 81 = .ok (.ifCond .eq 8, 3)) := by decide +kernel
theorem gX12_hasOwn_3 : (decode cX12_hasOwn 84 = .ok (.iload_n 1, 1)) ∧ (decode cX12_hasOwn 85 = .ok (.iconst 2, 1)) ∧ (decode cX12_hasOwn 86 = .ok (.if_icmp .ne 7, 3)) ∧ (decode cX12_hasOwn 89 = .ok (.iconst 1, 1)) ∧ (decode cX12_hasOwn 90 = .ok (.goto 4, 3)) ∧ (decode cX12_hasOwn 93 = .ok (.iconst 0, 1)) ∧ (decode cX12_hasOwn 94 = .ok (.ireturn, 1)) ∧ (decode cX12_hasOwn 95 = .ok (.iload_n 1, 1)) ∧ (decode cX12_hasOwn 96 = .ok (.iconst 3, 1)) ∧ (decode cX12_hasOwn 97 = .ok (.if_icmp .ne 7, 3)) := by decide +kernel
theorem gX12_hasOwn_4 : (decode cX12_hasOwn 100 = .ok (.iconst 1, 1)) ∧ (decode cX12_hasOwn 101 = .ok (.goto 4, 3)) ∧ (decode cX12_hasOwn 104 = .ok (.iconst 0, 1)) ∧ (decode cX12_hasOwn 105 = .ok (.ireturn, 1)) := by decide +kernel
end WR
/-- the reference's word for the kind of what a shelf holds -/
noncomputable def KOM (s o : Int32) (kp ks kf : Nat) (gp gs : Nat → Int32) : Int32 := ifc (s = 1) (ifc (Hs o kp) (nI (PKn (gp (o.toNatClampNeg * 6 + 1)) (gp (o.toNatClampNeg * 6 + 0)) (gp (o.toNatClampNeg * 6 + 3)))) (-1)) (ifc (s = 2) (ifc (Hs o ks) (nI (SKn (gs (o.toNatClampNeg * 8 + 6)))) (-1)) (ifc (s = 3) (ifc (Hs o kf) 6 (-1)) (-1)))
theorem wi_ten {x : Int32} : Wi (x - 10) 0 4 ↔ Wi x 10 14 := by
  constructor
  · intro h
    obtain ⟨j, hj, e⟩ := Wi_nat (N := 4) (by decide) h
    have h1 : x - 10 + 10 = x := by rw [Int32.sub_add_cancel]
    rw [e] at h1
    have e2 : x = nI (j + 10) := h1.symm.trans (nI_add j 10)
    rw [e2, wi_lit (a := 10) (b := 14) (by omega) (by decide) (by decide)]
    omega
  · intro h
    have h0 : ¬ x < 0 := fun h9 => h.1 (by
      rw [Int32.lt_iff_toInt_lt] at h9 ⊢
      have e0 : (0 : Int32).toInt = 0 := by decide
      have e10 : (10 : Int32).toInt = 10 := by decide
      omega)
    obtain ⟨n, hn, rfl⟩ := nI_of h0
    rw [wi_lit (a := 10) (b := 14) hn (by decide) (by decide)] at h
    have e2 : nI n - 10 = nI (n - 10) := pk_sub (b := 10) (by omega)
    rw [e2, wi_lit (a := 0) (b := 4) (by omega) (by decide) (by decide)]
    omega
section WR
variable {p : Program} {l : Launch} {e : Env} {R : Room} {s : State} {m : MethodId} {args : Array Value} {below : List Frame} {meth : Method} {c : Code} {H : Heap} {locs : List Loc} {cells slots : Nat} {Q : State → Prop}
variable {pc : Nat} {ls : Array Slot} {rest : List Value} {G : GG} {ws : va_W} {A : Nat → Prop} {y0 : MethodName} {b0 : ByteArray} {mL0 : Nat} {rt0 : Option FieldType} {a : Nat} {H0 : Heap}
theorem gX12_taken_0 : (decode cX12_taken 0 = .ok (.iload_n 1, 1)) ∧ (decode cX12_taken 1 = .ok (.invokestatic 336, 3)) ∧ (decode cX12_taken 4 = .ok (.ifCond .eq 24, 3)) ∧ (decode cX12_taken 7 = .ok (.iload_n 2, 1)) ∧ (decode cX12_taken 8 = .ok (.iconst 0, 1)) ∧ (decode cX12_taken 9 = .ok (.bipush 6, 2)) ∧ (decode cX12_taken 11 = .ok (.invokestatic 84, 3)) ∧ (decode cX12_taken 14 = .ok (.ifCond .ne 16, 3)) ∧ (decode cX12_taken 17 = .ok (.iload_n 2, 1)) ∧ (decode cX12_taken 18 = .ok (.bipush 10, 2)) := by decide +kernel
theorem gX12_taken_1 : (decode cX12_taken 20 = .ok (.bipush 14, 2)) ∧ (decode cX12_taken 22 = .ok (.invokestatic 84, 3)) ∧ (decode cX12_taken 25 = .ok (.ifCond .ne 5, 3)) ∧ (decode cX12_taken 28 = .ok (.iconst (-1), 1)) ∧ (decode cX12_taken 29 = .ok (.ireturn, 1)) ∧ (decode cX12_taken 30 = .ok (.aload_n 0, 1)) ∧ (decode cX12_taken 31 = .ok (.getfield 72, 3)) ∧ (decode cX12_taken 34 = .ok (.iload_n 1, 1)) ∧ (decode cX12_taken 35 = .ok (.iaload, 1)) ∧ (decode cX12_taken 36 = .ok (.iconst 4, 1)) := by decide +kernel
theorem gX12_taken_2 : (decode cX12_taken 37 = .ok (.if_icmp .ne 28, 3)) ∧ (decode cX12_taken 40 = .ok (.iload_n 2, 1)) ∧ (decode cX12_taken 41 = .ok (.bipush 10, 2)) ∧ (decode cX12_taken 43 = .ok (.isub, 1)) ∧ (decode cX12_taken 44 = .ok (.aload_n 0, 1)) ∧ (decode cX12_taken 45 = .ok (.getfield 75, 3)) ∧ (decode cX12_taken 48 = .ok (.iload_n 1, 1)) ∧ (decode cX12_taken 49 = .ok (.iaload, 1)) ∧ (decode cX12_taken 50 = .ok (.if_icmp .ne 12, 3)) ∧ (decode cX12_taken 53 = .ok (.aload_n 0, 1)) := by decide +kernel
theorem gX12_taken_3 : (decode cX12_taken 54 = .ok (.getfield 78, 3)) ∧ (decode cX12_taken 57 = .ok (.iload_n 1, 1)) ∧ (decode cX12_taken 58 = .ok (.iaload, 1)) ∧ (decode cX12_taken 59 = .ok (.goto 5, 3)) ∧ (decode cX12_taken 62 = .ok (.bipush (-13), 2)) ∧ (decode cX12_taken 64 = .ok (.ireturn, 1)) ∧ (decode cX12_taken 65 = .ok (.aload_n 0, 1)) ∧ (decode cX12_taken 66 = .ok (.iload_n 1, 1)) ∧ (decode cX12_taken 67 = .ok (.invokevirtual 345, 3)) ∧ (decode cX12_taken 70 = .ok (.istore_n 3, 1)) := by decide +kernel
theorem m_1387 : Cond.code yX12_kindOn cX12_kindOn 4 (some .int) ∈ BW := iB_BW74 _ (List.mem_of_getElem? (i := 3) rfl)
theorem m_1385 : Cond.methodLink RX12 345 yX12_kindOn ∈ BW := iB_BW74 _ (List.mem_of_getElem? (i := 1) rfl)
theorem m_1386 : Cond.instanceMethod yX12_kindOn ∈ BW := iB_BW74 _ (List.mem_of_getElem? (i := 2) rfl)
theorem m_97 : Cond.selects RX12 yX12_kindOn yX12_kindOn ∈ BW := iB_BW4 _ (List.mem_of_getElem? (i := 17) rfl)
theorem si_X12_345 : SV RX12 RX12 345 yX12_kindOn cX12_kindOn 4 (some .int) 1 := ⟨⟨m_1385, m_1386, m_97, m_115, m_1387⟩, rfl, nK_RX12.1, nK_RX12.2, pd_7⟩
theorem gX12_taken_4 : (decode cX12_taken 71 = .ok (.iload_n 3, 1)) ∧ (decode cX12_taken 72 = .ok (.ifCond .ge 6, 3)) ∧ (decode cX12_taken 75 = .ok (.bipush (-11), 2)) ∧ (decode cX12_taken 77 = .ok (.ireturn, 1)) ∧ (decode cX12_taken 78 = .ok (.iload_n 3, 1)) ∧ (decode cX12_taken 79 = .ok (.ifCond .lt 16, 3)) ∧ (decode cX12_taken 82 = .ok (.iload_n 3, 1)) ∧ (decode cX12_taken 83 = .ok (.iload_n 2, 1)) ∧ (decode cX12_taken 84 = .ok (.if_icmp .eq 11, 3)) ∧ (decode cX12_taken 87 = .ok (.iload_n 3, 1)) := by decide +kernel
theorem gX12_taken_5 : (decode cX12_taken 88 = .ok (.invokestatic 348, 3)) ∧ (decode cX12_taken 91 = .ok (.istore_n 3, 1)) ∧ (decode cX12_taken 92 = .ok (.goto (-14), 3)) ∧ (decode cX12_taken 95 = .ok (.iload_n 3, 1)) ∧ (decode cX12_taken 96 = .ok (.iload_n 2, 1)) ∧ (decode cX12_taken 97 = .ok (.if_icmp .ne 12, 3)) ∧ (decode cX12_taken 100 = .ok (.aload_n 0, 1)) ∧ (decode cX12_taken 101 = .ok (.getfield 75, 3)) ∧ (decode cX12_taken 104 = .ok (.iload_n 1, 1)) ∧ (decode cX12_taken 105 = .ok (.iaload, 1)) := by decide +kernel
theorem gX12_taken_6 : (decode cX12_taken 106 = .ok (.goto 5, 3)) ∧ (decode cX12_taken 109 = .ok (.bipush (-13), 2)) ∧ (decode cX12_taken 111 = .ok (.ireturn, 1)) := by decide +kernel
theorem m_1390 : Cond.code yX12_above cX12_above 1 (some .int) ∈ BW := iB_BW74 _ (List.mem_of_getElem? (i := 6) rfl)
theorem m_1388 : Cond.methodLink RX12 348 yX12_above ∈ BW := iB_BW74 _ (List.mem_of_getElem? (i := 4) rfl)
theorem m_1389 : Cond.static yX12_above ∈ BW := iB_BW74 _ (List.mem_of_getElem? (i := 5) rfl)
theorem si_X12_348 : SS RX12 348 yX12_above cX12_above 1 (some .int) 1 := ⟨⟨m_1388, m_1389, m_115, m_1390⟩, ⟨nK_RX12.1, nK_RX12.2, pd_7⟩⟩
end WR
theorem TK.cg {x1 x2 : Int32} {hw hn ht sh sf ss fp gp fs gs : Nat → Int32} {kp ks kf : Nat} (h : SLR hw hn ht sh sf ss) (hp : ∀ i, i < 72 → gp i = fp i) (hs : ∀ i, i < 128 → gs i = fs i) (hkp : kp ≤ 12) (hks : ks ≤ 16) : ifc (Wi x1 0 3) (ifc (Wi x2 0 6 ∨ Wi (x2 - 10) 0 4) (ifc (HLD (hw x1.toNatClampNeg) (hn x1.toNatClampNeg) kp ks kf = 4) (-11) (ifc (hw x1.toNatClampNeg = 3) (ifc (ht x1.toNatClampNeg = x2 - 10) (hn x1.toNatClampNeg) (-13)) (ifc (UNl (KNn (hw x1.toNatClampNeg) (hn x1.toNatClampNeg).toNatClampNeg fp fs) x2) (hn x1.toNatClampNeg) (-13)))) (-1)) (-1) = ifc (Wi x1 0 3) (ifc (Wi x2 0 6 ∨ Wi x2 10 14) (ifc (sh x1.toNatClampNeg = 4) (ifc (x2 - 10 = sf x1.toNatClampNeg) (ss x1.toNatClampNeg) (-13)) (ifc (KOM (sh x1.toNatClampNeg) (sf x1.toNatClampNeg) kp ks kf gp gs < 0) (-11) (ifc (UNl (KOM (sh x1.toNatClampNeg) (sf x1.toNatClampNeg) kp ks kf gp gs).toNatClampNeg x2) (sf x1.toNatClampNeg) (-13)))) (-1)) (-1) := by
  by_cases c1 : Wi x1 0 3
  · rw [ifc_t c1, ifc_t c1]
    obtain ⟨j, hj, rfl⟩ := Wi3 c1
    rw [nI_clamp (n := j) (by omega)]
    have hc : (Wi x2 0 6 ∨ Wi (x2 - 10) 0 4) = (Wi x2 0 6 ∨ Wi x2 10 14) := by rw [propext wi_ten]
    rw [hc]
    refine ifc_cg fun _ => ?_
    have n34 : ¬ (3 : Int32) = 4 := by decide
    rcases h j hj with ⟨a1, a2⟩ | ⟨a1, a2, a3⟩ | ⟨a1, a2, a3⟩ | ⟨a1, a2, a3⟩ | ⟨a1, a2, a3, a4, a5⟩
    · have e1 : HLD 4 (hn j) kp ks kf = 4 := by unfold HLD; rw [ifc_f (q := (4 : Int32) = 0) (by decide), ifc_f (q := (4 : Int32) = 1) (by decide), ifc_f (q := (4 : Int32) = 2) (by decide)]
      have e2 : KOM 0 (sf j) kp ks kf gp gs = (-1) := by unfold KOM; rw [ifc_f (q := (0 : Int32) = 1) (by decide), ifc_f (q := (0 : Int32) = 2) (by decide), ifc_f (q := (0 : Int32) = 3) (by decide)]
      rw [a1, a2, e1, e2, ifc_t (q := (4 : Int32) = 4) rfl, ifc_f (q := (0 : Int32) = 4) (by decide), ifc_t (q := (-1 : Int32) < 0) (by decide)]
    · have e1 : HLD 0 (sf j) kp ks kf = ifc (Hs (sf j) kp) 0 4 := by unfold HLD; rw [ifc_t (q := (0 : Int32) = 0) rfl]
      have e2 : KOM 1 (sf j) kp ks kf gp gs = ifc (Hs (sf j) kp) (nI (PKn (gp ((sf j).toNatClampNeg * 6 + 1)) (gp ((sf j).toNatClampNeg * 6 + 0)) (gp ((sf j).toNatClampNeg * 6 + 3)))) (-1) := by unfold KOM; rw [ifc_t (q := (1 : Int32) = 1) rfl]
      rw [a1, a2, a3, ifc_f (q := (1 : Int32) = 4) (by decide), e1, e2]
      by_cases c2 : Hs (sf j) kp
      · have e3 : KNn 0 (sf j).toNatClampNeg fp fs = PKn (gp ((sf j).toNatClampNeg * 6 + 1)) (gp ((sf j).toNatClampNeg * 6 + 0)) (gp ((sf j).toNatClampNeg * 6 + 3)) := by
          have hb := Hs_at (by omega) c2
          unfold KNn
          rw [ifn_t (q := (0 : Int32) = 0) rfl, hp ((sf j).toNatClampNeg * 6 + 1) (by omega), hp ((sf j).toNatClampNeg * 6 + 0) (by omega), hp ((sf j).toNatClampNeg * 6 + 3) (by omega)]
        have hl : PKn (gp ((sf j).toNatClampNeg * 6 + 1)) (gp ((sf j).toNatClampNeg * 6 + 0)) (gp ((sf j).toNatClampNeg * 6 + 3)) < 7 := PKn.lt
        rw [ifc_t c2, ifc_t c2, ifc_f (q := (0 : Int32) = 4) (by decide), ifc_f (q := (0 : Int32) = 3) (by decide), e3, ifc_f (q := nI (PKn (gp ((sf j).toNatClampNeg * 6 + 1)) (gp ((sf j).toNatClampNeg * 6 + 0)) (gp ((sf j).toNatClampNeg * 6 + 3))) < 0) (nI_nn (by omega)), nI_clamp (n := PKn (gp ((sf j).toNatClampNeg * 6 + 1)) (gp ((sf j).toNatClampNeg * 6 + 0)) (gp ((sf j).toNatClampNeg * 6 + 3))) (by omega)]
      · rw [ifc_f c2, ifc_f c2, ifc_t (q := (4 : Int32) = 4) rfl, ifc_t (q := (-1 : Int32) < 0) (by decide)]
    · have e1 : HLD 1 (sf j) kp ks kf = ifc (Hs (sf j) ks) 1 4 := by unfold HLD; rw [ifc_f (q := (1 : Int32) = 0) (by decide), ifc_t (q := (1 : Int32) = 1) rfl]
      have e2 : KOM 2 (sf j) kp ks kf gp gs = ifc (Hs (sf j) ks) (nI (SKn (gs ((sf j).toNatClampNeg * 8 + 6)))) (-1) := by unfold KOM; rw [ifc_f (q := (2 : Int32) = 1) (by decide), ifc_t (q := (2 : Int32) = 2) rfl]
      rw [a1, a2, a3, ifc_f (q := (2 : Int32) = 4) (by decide), e1, e2]
      by_cases c2 : Hs (sf j) ks
      · have e3 : KNn 1 (sf j).toNatClampNeg fp fs = SKn (gs ((sf j).toNatClampNeg * 8 + 6)) := by
          have hb := Hs_at (by omega) c2
          unfold KNn
          rw [ifn_f (q := (1 : Int32) = 0) (by decide), ifn_t (q := (1 : Int32) = 1) rfl, hs ((sf j).toNatClampNeg * 8 + 6) (by omega)]
        have hl : SKn (gs ((sf j).toNatClampNeg * 8 + 6)) < 7 := SKn.lt
        rw [ifc_t c2, ifc_t c2, ifc_f (q := (1 : Int32) = 4) (by decide), ifc_f (q := (1 : Int32) = 3) (by decide), e3, ifc_f (q := nI (SKn (gs ((sf j).toNatClampNeg * 8 + 6))) < 0) (nI_nn (by omega)), nI_clamp (n := SKn (gs ((sf j).toNatClampNeg * 8 + 6))) (by omega)]
      · rw [ifc_f c2, ifc_f c2, ifc_t (q := (4 : Int32) = 4) rfl, ifc_t (q := (-1 : Int32) < 0) (by decide)]
    · have e1 : HLD 2 (sf j) kp ks kf = ifc (Hs (sf j) kf) 2 4 := by unfold HLD; rw [ifc_f (q := (2 : Int32) = 0) (by decide), ifc_f (q := (2 : Int32) = 1) (by decide), ifc_t (q := (2 : Int32) = 2) rfl]
      have e2 : KOM 3 (sf j) kp ks kf gp gs = ifc (Hs (sf j) kf) 6 (-1) := by unfold KOM; rw [ifc_f (q := (3 : Int32) = 1) (by decide), ifc_f (q := (3 : Int32) = 2) (by decide), ifc_t (q := (3 : Int32) = 3) rfl]
      rw [a1, a2, a3, ifc_f n34, e1, e2]
      by_cases c2 : Hs (sf j) kf
      · have e3 : KNn 2 (sf j).toNatClampNeg fp fs = 6 := by unfold KNn; rw [ifn_f (q := (2 : Int32) = 0) (by decide), ifn_f (q := (2 : Int32) = 1) (by decide)]
        have e6 : (6 : Int32).toNatClampNeg = 6 := by decide
        rw [ifc_t c2, ifc_t c2, ifc_f (q := (2 : Int32) = 4) (by decide), ifc_f (q := (2 : Int32) = 3) (by decide), e3, ifc_f (q := (6 : Int32) < 0) (by decide), e6]
      · rw [ifc_f c2, ifc_f c2, ifc_t (q := (4 : Int32) = 4) rfl, ifc_t (q := (-1 : Int32) < 0) (by decide)]
    · have e1 : HLD 3 (hn j) kp ks kf = 3 := by unfold HLD; rw [ifc_f (q := (3 : Int32) = 0) (by decide), ifc_f (q := (3 : Int32) = 1) (by decide), ifc_f (q := (3 : Int32) = 2) (by decide)]
      rw [a1, a2, e1, ifc_f n34, ifc_t (q := (3 : Int32) = 3) rfl, ifc_t (q := (4 : Int32) = 4) rfl, a3, a4]
      by_cases c5 : sf j = x2 - 10
      · rw [ifc_t c5, ifc_t c5.symm]
      · rw [ifc_f c5, ifc_f (fun h9 => c5 h9.symm)]
  · rw [ifc_f c1, ifc_f c1]
section WR
variable {p : Program} {l : Launch} {e : Env} {R : Room} {s : State} {m : MethodId} {args : Array Value} {below : List Frame} {meth : Method} {c : Code} {H : Heap} {locs : List Loc} {cells slots : Nat} {Q : State → Prop}
variable {pc : Nat} {ls : Array Slot} {rest : List Value} {G : GG} {ws : va_W} {A : Nat → Prop} {y0 : MethodName} {b0 : ByteArray} {mL0 : Nat} {rt0 : Option FieldType} {a : Nat} {H0 : Heap}
theorem gX12_began_0 : (decode cX12_began 0 = .ok (.aload_n 0, 1)) ∧ (decode cX12_began 1 = .ok (.getfield 351, 3)) ∧ (decode cX12_began 4 = .ok (.bipush 30, 2)) ∧ (decode cX12_began 6 = .ok (.if_icmp .ge 23, 3)) ∧ (decode cX12_began 9 = .ok (.aload_n 0, 1)) ∧ (decode cX12_began 10 = .ok (.getfield 81, 3)) ∧ (decode cX12_began 13 = .ok (.aload_n 0, 1)) ∧ (decode cX12_began 14 = .ok (.getfield 351, 3)) ∧ (decode cX12_began 17 = .ok (.iload_n 1, 1)) ∧ (decode cX12_began 18 = .ok (.iastore, 1)) := by decide +kernel
theorem m_1065 : Cond.fieldLink RX12 351 "InquiryBenchModel" "traced" "I" ∈ BW := iB_BW56 _ (List.mem_of_getElem? (i := 14) rfl)
theorem gf_X12_351 (hC : CX p s m meth c y0 b0 mL0 rt0 args) (hy0 : y0.cls = RX12) (hK : KK G s) (hP : va_P G.1 vwCl ws H) (q0 : Nat) {fs : List Value} {v : Value} (he : ws[q0]? = some (a, .inr (12, fs))) (hv : fs[35]? = some v) (hdg : decode b0 pc = .ok (.getfield 351, 3)) (kk : W p l e R s m args below meth c H locs cells slots Q (F0 m (pc + 3) ls (v :: rest))) : W p l e R s m args below meth c H locs cells slots Q (F0 m pc ls (.ref a :: rest)) := by
  obtain ⟨hx, hb, hr, hml, hB, hown, hlocks, hnm⟩ := hC
  rw [hy0] at hown
  exact va_get (ci := 12) (C := RX12) (T := TX12) (N := 41) hx hb hB in_X12 hown hK.1 hP q0 he rfl 35 (by decide) (hB _ m_1065) (fun _ h => h) hv hdg kk
theorem gX12_began_1 : (decode cX12_began 19 = .ok (.aload_n 0, 1)) ∧ (decode cX12_began 20 = .ok (.dup, 1)) ∧ (decode cX12_began 21 = .ok (.getfield 351, 3)) ∧ (decode cX12_began 24 = .ok (.iconst 1, 1)) ∧ (decode cX12_began 25 = .ok (.iadd, 1)) ∧ (decode cX12_began 26 = .ok (.putfield 351, 3)) ∧ (decode cX12_began 29 = .ok (.return_, 1)) := by decide +kernel
theorem m_1064 : Cond.fieldLink RX12 81 "InquiryBenchModel" "trace" "[I" ∈ BW := iB_BW56 _ (List.mem_of_getElem? (i := 13) rfl)
theorem gf_X12_81 (hC : CX p s m meth c y0 b0 mL0 rt0 args) (hy0 : y0.cls = RX12) (hK : KK G s) (hP : va_P G.1 vwCl ws H) (q0 : Nat) {fs : List Value} {v : Value} (he : ws[q0]? = some (a, .inr (12, fs))) (hv : fs[34]? = some v) (hdg : decode b0 pc = .ok (.getfield 81, 3)) (kk : W p l e R s m args below meth c H locs cells slots Q (F0 m (pc + 3) ls (v :: rest))) : W p l e R s m args below meth c H locs cells slots Q (F0 m pc ls (.ref a :: rest)) := by
  obtain ⟨hx, hb, hr, hml, hB, hown, hlocks, hnm⟩ := hC
  rw [hy0] at hown
  exact va_get (ci := 12) (C := RX12) (T := TX12) (N := 41) hx hb hB in_X12 hown hK.1 hP q0 he rfl 34 (by decide) (hB _ m_1064) (fun _ h => h) hv hdg kk
theorem pf_X12_351 (hC : CX p s m meth c y0 b0 mL0 rt0 args) (hy0 : y0.cls = RX12) (hK : KK G s) (hP : va_P G.1 vwCl ws H) (hD : va_D A ws) (hS : va_S A H0 H locs) (q0 : Nat) {fs : List Value} {v : Value} {ws' : va_W} (he : ws[q0]? = some (a, .inr (12, fs))) (hl : 35 < fs.length) (hws : ws.set q0 (a, .inr (12, fs.set 35 v)) = ws') (hn : narrow .int v = v) (hfit : fits .int v = true) (hdg : decode b0 pc = .ok (.putfield 351, 3)) (kk : ∀ (H1 : Heap) (locs1 : List Loc), va_P G.1 vwCl ws' H1 → va_D A ws' → va_S A H0 H1 locs1 → W p l e R s m args below meth c H1 locs1 cells slots Q (F0 m (pc + 3) ls rest)) : W p l e R s m args below meth c H locs cells slots Q (F0 m pc ls (v :: .ref a :: rest)) := by
  obtain ⟨hx, hb, hr, hml, hB, hown, hlocks, hnm⟩ := hC
  rw [hy0] at hown
  subst hws
  exact va_put (ci := 12) (ty := .int) (C := RX12) (T := TX12) (N := 41) hx hb hB in_X12 tyX12 tyX12_ok nmX12 hown hK.1 hP hD hS q0 he rfl 35 (by decide) (hB _ m_1065) (fun _ h => h) rfl (by decide +kernel) hn hfit hl hdg kk
end WR
theorem nz_sub {a b : Int32} (h : ¬ a = b) : ¬ a - b = 0 := by
  intro h9
  apply h
  have e : a - b + b = 0 + b := by rw [h9]
  rw [Int32.sub_add_cancel, Int32.zero_add] at e
  exact e
section WR
variable {p : Program} {l : Launch} {e : Env} {R : Room} {s : State} {m : MethodId} {args : Array Value} {below : List Frame} {meth : Method} {c : Code} {H : Heap} {locs : List Loc} {cells slots : Nat} {Q : State → Prop}
variable {pc : Nat} {ls : Array Slot} {rest : List Value} {G : GG} {ws : va_W} {A : Nat → Prop} {y0 : MethodName} {b0 : ByteArray} {mL0 : Nat} {rt0 : Option FieldType} {a : Nat} {H0 : Heap}
theorem gX12_body_0 : (decode cX12_body 0 = .ok (.iconst 4, 1)) ∧ (decode cX12_body 1 = .ok (.iload_n 1, 1)) ∧ (decode cX12_body 2 = .ok (.imul, 1)) ∧ (decode cX12_body 3 = .ok (.iload_n 2, 1)) ∧ (decode cX12_body 4 = .ok (.iadd, 1)) ∧ (decode cX12_body 5 = .ok (.tableswitch 348 0 22 #[107, 120, 135, 153, 348, 202, 348, 348, 348, 348, 221, 348, 348, 237, 348, 253, 269, 348, 288, 348, 329, 348, 313], 107)) ∧ (decode cX12_body 112 = .ok (.aload_n 0, 1)) ∧ (decode cX12_body 113 = .ok (.bipush 10, 2)) ∧ (decode cX12_body 115 = .ok (.invokevirtual 366, 3)) ∧ (decode cX12_body 118 = .ok (.iload_n 3, 1)) := by decide +kernel
theorem m_1409 : Cond.code yX12_began cX12_began 2 none ∈ BW := iB_BW75 _ (List.mem_of_getElem? (i := 5) rfl)
theorem m_1407 : Cond.methodLink RX12 366 yX12_began ∈ BW := iB_BW75 _ (List.mem_of_getElem? (i := 3) rfl)
theorem m_1408 : Cond.instanceMethod yX12_began ∈ BW := iB_BW75 _ (List.mem_of_getElem? (i := 4) rfl)
theorem m_101 : Cond.selects RX12 yX12_began yX12_began ∈ BW := iB_BW5 _ (List.mem_of_getElem? (i := 1) rfl)
theorem si_X12_366 : SV RX12 RX12 366 yX12_began cX12_began 2 none 1 := ⟨⟨m_1407, m_1408, m_101, m_115, m_1409⟩, rfl, nK_RX12.1, nK_RX12.2, pd_18⟩
theorem gX12_body_1 : (decode cX12_body 119 = .ok (.aload_n 0, 1)) ∧ (decode cX12_body 120 = .ok (.getfield 369, 3)) ∧ (decode cX12_body 123 = .ok (.iadd, 1)) ∧ (decode cX12_body 124 = .ok (.ireturn, 1)) ∧ (decode cX12_body 125 = .ok (.aload_n 0, 1)) ∧ (decode cX12_body 126 = .ok (.bipush 11, 2)) ∧ (decode cX12_body 128 = .ok (.invokevirtual 366, 3)) ∧ (decode cX12_body 131 = .ok (.aload_n 0, 1)) ∧ (decode cX12_body 132 = .ok (.iconst 0, 1)) ∧ (decode cX12_body 133 = .ok (.iload_n 3, 1)) := by decide +kernel
theorem m_1069 : Cond.fieldLink RX12 369 "InquiryBenchModel" "size" "I" ∈ BW := iB_BW56 _ (List.mem_of_getElem? (i := 18) rfl)
theorem gf_X12_369 (hC : CX p s m meth c y0 b0 mL0 rt0 args) (hy0 : y0.cls = RX12) (hK : KK G s) (hP : va_P G.1 vwCl ws H) (q0 : Nat) {fs : List Value} {v : Value} (he : ws[q0]? = some (a, .inr (12, fs))) (hv : fs[39]? = some v) (hdg : decode b0 pc = .ok (.getfield 369, 3)) (kk : W p l e R s m args below meth c H locs cells slots Q (F0 m (pc + 3) ls (v :: rest))) : W p l e R s m args below meth c H locs cells slots Q (F0 m pc ls (.ref a :: rest)) := by
  obtain ⟨hx, hb, hr, hml, hB, hown, hlocks, hnm⟩ := hC
  rw [hy0] at hown
  exact va_get (ci := 12) (C := RX12) (T := TX12) (N := 41) hx hb hB in_X12 hown hK.1 hP q0 he rfl 39 (by decide) (hB _ m_1069) (fun _ h => h) hv hdg kk
theorem gX12_bodyFrom_0 : (decode cX12_bodyFrom 0 = .ok (.iload_n 1, 1)) ∧ (decode cX12_bodyFrom 1 = .ok (.istore 4, 2)) ∧ (decode cX12_bodyFrom 3 = .ok (.iload 4, 2)) ∧ (decode cX12_bodyFrom 5 = .ok (.iload_n 2, 1)) ∧ (decode cX12_bodyFrom 6 = .ok (.invokestatic 360, 3)) ∧ (decode cX12_bodyFrom 9 = .ok (.ifCond .ne 13, 3)) ∧ (decode cX12_bodyFrom 12 = .ok (.iload 4, 2)) ∧ (decode cX12_bodyFrom 14 = .ok (.invokestatic 348, 3)) ∧ (decode cX12_bodyFrom 17 = .ok (.istore 4, 2)) ∧ (decode cX12_bodyFrom 19 = .ok (.goto (-16), 3)) := by decide +kernel
theorem m_1403 : Cond.code yX12_hasOwn cX12_hasOwn 2 (some .boolean) ∈ BW := iB_BW74 _ (List.mem_of_getElem? (i := 19) rfl)
theorem m_1401 : Cond.methodLink RX12 360 yX12_hasOwn ∈ BW := iB_BW74 _ (List.mem_of_getElem? (i := 17) rfl)
theorem m_1402 : Cond.static yX12_hasOwn ∈ BW := iB_BW74 _ (List.mem_of_getElem? (i := 18) rfl)
theorem si_X12_360 : SS RX12 360 yX12_hasOwn cX12_hasOwn 2 (some .boolean) 2 := ⟨⟨m_1401, m_1402, m_115, m_1403⟩, ⟨nK_RX12.1, nK_RX12.2, pd_3⟩⟩
theorem gX12_bodyFrom_1 : (decode cX12_bodyFrom 22 = .ok (.aload_n 0, 1)) ∧ (decode cX12_bodyFrom 23 = .ok (.iload 4, 2)) ∧ (decode cX12_bodyFrom 25 = .ok (.iload_n 2, 1)) ∧ (decode cX12_bodyFrom 26 = .ok (.iload_n 3, 1)) ∧ (decode cX12_bodyFrom 27 = .ok (.invokevirtual 363, 3)) ∧ (decode cX12_bodyFrom 30 = .ok (.ireturn, 1)) := by decide +kernel
theorem m_1406 : Cond.code yX12_body cX12_body 6 (some .int) ∈ BW := iB_BW75 _ (List.mem_of_getElem? (i := 2) rfl)
theorem m_1404 : Cond.methodLink RX12 363 yX12_body ∈ BW := iB_BW75 _ (List.mem_of_getElem? (i := 0) rfl)
theorem m_1405 : Cond.instanceMethod yX12_body ∈ BW := iB_BW75 _ (List.mem_of_getElem? (i := 1) rfl)
theorem m_100 : Cond.selects RX12 yX12_body yX12_body ∈ BW := iB_BW5 _ (List.mem_of_getElem? (i := 0) rfl)
theorem si_X12_363 : SV RX12 RX12 363 yX12_body cX12_body 6 (some .int) 3 := ⟨⟨m_1404, m_1405, m_100, m_115, m_1406⟩, rfl, nK_RX12.1, nK_RX12.2, pd_19⟩
theorem gX12_body_10 : (decode cX12_body 266 = .ok (.iconst 3, 1)) ∧ (decode cX12_body 267 = .ok (.iload_n 3, 1)) ∧ (decode cX12_body 268 = .ok (.iconst 2, 1)) ∧ (decode cX12_body 269 = .ok (.iadd, 1)) ∧ (decode cX12_body 270 = .ok (.invokevirtual 357, 3)) ∧ (decode cX12_body 273 = .ok (.ireturn, 1)) ∧ (decode cX12_body 274 = .ok (.aload_n 0, 1)) ∧ (decode cX12_body 275 = .ok (.bipush 50, 2)) ∧ (decode cX12_body 277 = .ok (.invokevirtual 366, 3)) ∧ (decode cX12_body 280 = .ok (.aload_n 0, 1)) := by decide +kernel
theorem gX12_body_11 : (decode cX12_body 281 = .ok (.iconst 0, 1)) ∧ (decode cX12_body 282 = .ok (.iconst 0, 1)) ∧ (decode cX12_body 283 = .ok (.iload_n 3, 1)) ∧ (decode cX12_body 284 = .ok (.invokevirtual 357, 3)) ∧ (decode cX12_body 287 = .ok (.aload_n 0, 1)) ∧ (decode cX12_body 288 = .ok (.getfield 378, 3)) ∧ (decode cX12_body 291 = .ok (.isub, 1)) ∧ (decode cX12_body 292 = .ok (.ireturn, 1)) ∧ (decode cX12_body 293 = .ok (.aload_n 0, 1)) ∧ (decode cX12_body 294 = .ok (.bipush 51, 2)) := by decide +kernel
theorem m_1400 : Cond.code yX12_bodyFrom cX12_bodyFrom 5 (some .int) ∈ BW := iB_BW74 _ (List.mem_of_getElem? (i := 16) rfl)
theorem m_1398 : Cond.methodLink RX12 357 yX12_bodyFrom ∈ BW := iB_BW74 _ (List.mem_of_getElem? (i := 14) rfl)
theorem m_1399 : Cond.instanceMethod yX12_bodyFrom ∈ BW := iB_BW74 _ (List.mem_of_getElem? (i := 15) rfl)
theorem m_99 : Cond.selects RX12 yX12_bodyFrom yX12_bodyFrom ∈ BW := iB_BW4 _ (List.mem_of_getElem? (i := 19) rfl)
theorem si_X12_357 : SV RX12 RX12 357 yX12_bodyFrom cX12_bodyFrom 5 (some .int) 3 := ⟨⟨m_1398, m_1399, m_99, m_115, m_1400⟩, rfl, nK_RX12.1, nK_RX12.2, pd_19⟩
theorem m_1067 : Cond.fieldLink RX12 378 "InquiryBenchModel" "numbe\x72" "I" ∈ BW := iB_BW56 _ (List.mem_of_getElem? (i := 16) rfl)
theorem gf_X12_378 (hC : CX p s m meth c y0 b0 mL0 rt0 args) (hy0 : y0.cls = RX12) (hK : KK G s) (hP : va_P G.1 vwCl ws H) (q0 : Nat) {fs : List Value} {v : Value} (he : ws[q0]? = some (a, .inr (12, fs))) (hv : fs[37]? = some v) (hdg : decode b0 pc = .ok (.getfield 378, 3)) (kk : W p l e R s m args below meth c H locs cells slots Q (F0 m (pc + 3) ls (v :: rest))) : W p l e R s m args below meth c H locs cells slots Q (F0 m pc ls (.ref a :: rest)) := by
  obtain ⟨hx, hb, hr, hml, hB, hown, hlocks, hnm⟩ := hC
  rw [hy0] at hown
  exact va_get (ci := 12) (C := RX12) (T := TX12) (N := 41) hx hb hB in_X12 hown hK.1 hP q0 he rfl 37 (by decide) (hB _ m_1067) (fun _ h => h) hv hdg kk
theorem gX12_body_14 : (decode cX12_body 327 = .ok (.iload_n 3, 1)) ∧ (decode cX12_body 328 = .ok (.invokevirtual 357, 3)) ∧ (decode cX12_body 331 = .ok (.iconst 2, 1)) ∧ (decode cX12_body 332 = .ok (.imul, 1)) ∧ (decode cX12_body 333 = .ok (.ireturn, 1)) ∧ (decode cX12_body 334 = .ok (.aload_n 0, 1)) ∧ (decode cX12_body 335 = .ok (.bipush 61, 2)) ∧ (decode cX12_body 337 = .ok (.invokevirtual 366, 3)) ∧ (decode cX12_body 340 = .ok (.aload_n 0, 1)) ∧ (decode cX12_body 341 = .ok (.iconst 4, 1)) := by decide +kernel
theorem gX12_body_15 : (decode cX12_body 342 = .ok (.iconst 0, 1)) ∧ (decode cX12_body 343 = .ok (.iload_n 3, 1)) ∧ (decode cX12_body 344 = .ok (.aload_n 0, 1)) ∧ (decode cX12_body 345 = .ok (.getfield 375, 3)) ∧ (decode cX12_body 348 = .ok (.iadd, 1)) ∧ (decode cX12_body 349 = .ok (.invokevirtual 357, 3)) ∧ (decode cX12_body 352 = .ok (.ireturn, 1)) ∧ (decode cX12_body 353 = .ok (.aload_n 0, 1)) ∧ (decode cX12_body 354 = .ok (.bipush 70, 2)) ∧ (decode cX12_body 356 = .ok (.invokevirtual 366, 3)) := by decide +kernel
theorem m_1068 : Cond.fieldLink RX12 375 "InquiryBenchModel" "whose" "I" ∈ BW := iB_BW56 _ (List.mem_of_getElem? (i := 17) rfl)
theorem gf_X12_375 (hC : CX p s m meth c y0 b0 mL0 rt0 args) (hy0 : y0.cls = RX12) (hK : KK G s) (hP : va_P G.1 vwCl ws H) (q0 : Nat) {fs : List Value} {v : Value} (he : ws[q0]? = some (a, .inr (12, fs))) (hv : fs[38]? = some v) (hdg : decode b0 pc = .ok (.getfield 375, 3)) (kk : W p l e R s m args below meth c H locs cells slots Q (F0 m (pc + 3) ls (v :: rest))) : W p l e R s m args below meth c H locs cells slots Q (F0 m pc ls (.ref a :: rest)) := by
  obtain ⟨hx, hb, hr, hml, hB, hown, hlocks, hnm⟩ := hC
  rw [hy0] at hown
  exact va_get (ci := 12) (C := RX12) (T := TX12) (N := 41) hx hb hB in_X12 hown hK.1 hP q0 he rfl 38 (by decide) (hB _ m_1068) (fun _ h => h) hv hdg kk
theorem gX12_dealt_0 : (decode cX12_dealt 0 = .ok (.aload_n 0, 1)) ∧ (decode cX12_dealt 1 = .ok (.aload_n 0, 1)) ∧ (decode cX12_dealt 2 = .ok (.getfield 354, 3)) ∧ (decode cX12_dealt 5 = .ok (.iload_n 1, 1)) ∧ (decode cX12_dealt 6 = .ok (.iload_n 2, 1)) ∧ (decode cX12_dealt 7 = .ok (.invokevirtual 357, 3)) ∧ (decode cX12_dealt 10 = .ok (.ireturn, 1)) := by decide +kernel
theorem m_1066 : Cond.fieldLink RX12 354 "InquiryBenchModel" "deale\x72" "I" ∈ BW := iB_BW56 _ (List.mem_of_getElem? (i := 15) rfl)
theorem gf_X12_354 (hC : CX p s m meth c y0 b0 mL0 rt0 args) (hy0 : y0.cls = RX12) (hK : KK G s) (hP : va_P G.1 vwCl ws H) (q0 : Nat) {fs : List Value} {v : Value} (he : ws[q0]? = some (a, .inr (12, fs))) (hv : fs[36]? = some v) (hdg : decode b0 pc = .ok (.getfield 354, 3)) (kk : W p l e R s m args below meth c H locs cells slots Q (F0 m (pc + 3) ls (v :: rest))) : W p l e R s m args below meth c H locs cells slots Q (F0 m pc ls (.ref a :: rest)) := by
  obtain ⟨hx, hb, hr, hml, hB, hown, hlocks, hnm⟩ := hC
  rw [hy0] at hown
  exact va_get (ci := 12) (C := RX12) (T := TX12) (N := 41) hx hb hB in_X12 hown hK.1 hP q0 he rfl 36 (by decide) (hB _ m_1066) (fun _ h => h) hv hdg kk
theorem gX12_body_2 : (decode cX12_body 134 = .ok (.invokevirtual 372, 3)) ∧ (decode cX12_body 137 = .ok (.iconst 2, 1)) ∧ (decode cX12_body 138 = .ok (.imul, 1)) ∧ (decode cX12_body 139 = .ok (.ireturn, 1)) ∧ (decode cX12_body 140 = .ok (.aload_n 0, 1)) ∧ (decode cX12_body 141 = .ok (.bipush 12, 2)) ∧ (decode cX12_body 143 = .ok (.invokevirtual 366, 3)) ∧ (decode cX12_body 146 = .ok (.aload_n 0, 1)) ∧ (decode cX12_body 147 = .ok (.iconst 1, 1)) ∧ (decode cX12_body 148 = .ok (.iload_n 3, 1)) := by decide +kernel
theorem m_1397 : Cond.code yX12_dealt cX12_dealt 3 (some .int) ∈ BW := iB_BW74 _ (List.mem_of_getElem? (i := 13) rfl)
theorem m_1395 : Cond.methodLink RX12 372 yX12_dealt ∈ BW := iB_BW74 _ (List.mem_of_getElem? (i := 11) rfl)
theorem m_1396 : Cond.instanceMethod yX12_dealt ∈ BW := iB_BW74 _ (List.mem_of_getElem? (i := 12) rfl)
theorem m_98 : Cond.selects RX12 yX12_dealt yX12_dealt ∈ BW := iB_BW4 _ (List.mem_of_getElem? (i := 18) rfl)
theorem si_X12_372 : SV RX12 RX12 372 yX12_dealt cX12_dealt 3 (some .int) 2 := ⟨⟨m_1395, m_1396, m_98, m_115, m_1397⟩, rfl, nK_RX12.1, nK_RX12.2, pd_2⟩
theorem gX12_body_6 : (decode cX12_body 206 = .ok (.ireturn, 1)) ∧ (decode cX12_body 207 = .ok (.aload_n 0, 1)) ∧ (decode cX12_body 208 = .ok (.bipush 20, 2)) ∧ (decode cX12_body 210 = .ok (.invokevirtual 366, 3)) ∧ (decode cX12_body 213 = .ok (.aload_n 0, 1)) ∧ (decode cX12_body 214 = .ok (.iconst 0, 1)) ∧ (decode cX12_body 215 = .ok (.iconst 1, 1)) ∧ (decode cX12_body 216 = .ok (.iload_n 3, 1)) ∧ (decode cX12_body 217 = .ok (.invokevirtual 357, 3)) ∧ (decode cX12_body 220 = .ok (.aload_n 0, 1)) := by decide +kernel
theorem gX12_body_7 : (decode cX12_body 221 = .ok (.getfield 378, 3)) ∧ (decode cX12_body 224 = .ok (.ixor, 1)) ∧ (decode cX12_body 225 = .ok (.ireturn, 1)) ∧ (decode cX12_body 226 = .ok (.aload_n 0, 1)) ∧ (decode cX12_body 227 = .ok (.bipush 30, 2)) ∧ (decode cX12_body 229 = .ok (.invokevirtual 366, 3)) ∧ (decode cX12_body 232 = .ok (.aload_n 0, 1)) ∧ (decode cX12_body 233 = .ok (.iconst 0, 1)) ∧ (decode cX12_body 234 = .ok (.iconst 2, 1)) ∧ (decode cX12_body 235 = .ok (.iload_n 3, 1)) := by decide +kernel
theorem gX12_body_8 : (decode cX12_body 236 = .ok (.invokevirtual 357, 3)) ∧ (decode cX12_body 239 = .ok (.iconst 3, 1)) ∧ (decode cX12_body 240 = .ok (.imul, 1)) ∧ (decode cX12_body 241 = .ok (.ireturn, 1)) ∧ (decode cX12_body 242 = .ok (.aload_n 0, 1)) ∧ (decode cX12_body 243 = .ok (.bipush 40, 2)) ∧ (decode cX12_body 245 = .ok (.invokevirtual 366, 3)) ∧ (decode cX12_body 248 = .ok (.iconst 0, 1)) ∧ (decode cX12_body 249 = .ok (.aload_n 0, 1)) ∧ (decode cX12_body 250 = .ok (.iconst 1, 1)) := by decide +kernel
theorem gX12_body_9 : (decode cX12_body 251 = .ok (.iconst 1, 1)) ∧ (decode cX12_body 252 = .ok (.iload_n 3, 1)) ∧ (decode cX12_body 253 = .ok (.invokevirtual 357, 3)) ∧ (decode cX12_body 256 = .ok (.isub, 1)) ∧ (decode cX12_body 257 = .ok (.ireturn, 1)) ∧ (decode cX12_body 258 = .ok (.aload_n 0, 1)) ∧ (decode cX12_body 259 = .ok (.bipush 41, 2)) ∧ (decode cX12_body 261 = .ok (.invokevirtual 366, 3)) ∧ (decode cX12_body 264 = .ok (.aload_n 0, 1)) ∧ (decode cX12_body 265 = .ok (.iconst 1, 1)) := by decide +kernel
theorem gX12_body_3 : (decode cX12_body 149 = .ok (.invokevirtual 372, 3)) ∧ (decode cX12_body 152 = .ok (.aload_n 0, 1)) ∧ (decode cX12_body 153 = .ok (.getfield 375, 3)) ∧ (decode cX12_body 156 = .ok (.isub, 1)) ∧ (decode cX12_body 157 = .ok (.ireturn, 1)) ∧ (decode cX12_body 158 = .ok (.aload_n 0, 1)) ∧ (decode cX12_body 159 = .ok (.bipush 13, 2)) ∧ (decode cX12_body 161 = .ok (.invokevirtual 366, 3)) ∧ (decode cX12_body 164 = .ok (.aload_n 0, 1)) ∧ (decode cX12_body 165 = .ok (.aload_n 0, 1)) := by decide +kernel
theorem gX12_body_12 : (decode cX12_body 296 = .ok (.invokevirtual 366, 3)) ∧ (decode cX12_body 299 = .ok (.aload_n 0, 1)) ∧ (decode cX12_body 300 = .ok (.iconst 0, 1)) ∧ (decode cX12_body 301 = .ok (.iconst 2, 1)) ∧ (decode cX12_body 302 = .ok (.iload_n 3, 1)) ∧ (decode cX12_body 303 = .ok (.invokevirtual 357, 3)) ∧ (decode cX12_body 306 = .ok (.istore 4, 2)) ∧ (decode cX12_body 308 = .ok (.iload 4, 2)) ∧ (decode cX12_body 310 = .ok (.aload_n 0, 1)) ∧ (decode cX12_body 311 = .ok (.iconst 1, 1)) := by decide +kernel
theorem gX12_body_13 : (decode cX12_body 312 = .ok (.iconst 1, 1)) ∧ (decode cX12_body 313 = .ok (.invokevirtual 372, 3)) ∧ (decode cX12_body 316 = .ok (.iadd, 1)) ∧ (decode cX12_body 317 = .ok (.ireturn, 1)) ∧ (decode cX12_body 318 = .ok (.aload_n 0, 1)) ∧ (decode cX12_body 319 = .ok (.bipush 60, 2)) ∧ (decode cX12_body 321 = .ok (.invokevirtual 366, 3)) ∧ (decode cX12_body 324 = .ok (.aload_n 0, 1)) ∧ (decode cX12_body 325 = .ok (.iconst 4, 1)) ∧ (decode cX12_body 326 = .ok (.iconst 2, 1)) := by decide +kernel
theorem gX12_body_4 : (decode cX12_body 166 = .ok (.getfield 375, 3)) ∧ (decode cX12_body 169 = .ok (.aload_n 0, 1)) ∧ (decode cX12_body 170 = .ok (.getfield 378, 3)) ∧ (decode cX12_body 173 = .ok (.if_icmp .ne 7, 3)) ∧ (decode cX12_body 176 = .ok (.iconst 1, 1)) ∧ (decode cX12_body 177 = .ok (.goto 4, 3)) ∧ (decode cX12_body 180 = .ok (.iconst 0, 1)) ∧ (decode cX12_body 181 = .ok (.putfield 380, 3)) ∧ (decode cX12_body 184 = .ok (.aload_n 0, 1)) ∧ (decode cX12_body 185 = .ok (.getfield 380, 3)) := by decide +kernel
theorem m_1070 : Cond.fieldLink RX12 380 "InquiryBenchModel" "isParted" "Z" ∈ BW := iB_BW56 _ (List.mem_of_getElem? (i := 19) rfl)
theorem pf_X12_380 (hC : CX p s m meth c y0 b0 mL0 rt0 args) (hy0 : y0.cls = RX12) (hK : KK G s) (hP : va_P G.1 vwCl ws H) (hD : va_D A ws) (hS : va_S A H0 H locs) (q0 : Nat) {fs : List Value} {v : Value} {ws' : va_W} (he : ws[q0]? = some (a, .inr (12, fs))) (hl : 40 < fs.length) (hws : ws.set q0 (a, .inr (12, fs.set 40 v)) = ws') (hn : narrow .boolean v = v) (hfit : fits .boolean v = true) (hdg : decode b0 pc = .ok (.putfield 380, 3)) (kk : ∀ (H1 : Heap) (locs1 : List Loc), va_P G.1 vwCl ws' H1 → va_D A ws' → va_S A H0 H1 locs1 → W p l e R s m args below meth c H1 locs1 cells slots Q (F0 m (pc + 3) ls rest)) : W p l e R s m args below meth c H locs cells slots Q (F0 m pc ls (v :: .ref a :: rest)) := by
  obtain ⟨hx, hb, hr, hml, hB, hown, hlocks, hnm⟩ := hC
  rw [hy0] at hown
  subst hws
  exact va_put (ci := 12) (ty := .boolean) (C := RX12) (T := TX12) (N := 41) hx hb hB in_X12 tyX12 tyX12_ok nmX12 hown hK.1 hP hD hS q0 he rfl 40 (by decide) (hB _ m_1070) (fun _ h => h) rfl (by decide +kernel) hn hfit hl hdg kk
theorem gf_X12_380 (hC : CX p s m meth c y0 b0 mL0 rt0 args) (hy0 : y0.cls = RX12) (hK : KK G s) (hP : va_P G.1 vwCl ws H) (q0 : Nat) {fs : List Value} {v : Value} (he : ws[q0]? = some (a, .inr (12, fs))) (hv : fs[40]? = some v) (hdg : decode b0 pc = .ok (.getfield 380, 3)) (kk : W p l e R s m args below meth c H locs cells slots Q (F0 m (pc + 3) ls (v :: rest))) : W p l e R s m args below meth c H locs cells slots Q (F0 m pc ls (.ref a :: rest)) := by
  obtain ⟨hx, hb, hr, hml, hB, hown, hlocks, hnm⟩ := hC
  rw [hy0] at hown
  exact va_get (ci := 12) (C := RX12) (T := TX12) (N := 41) hx hb hB in_X12 hown hK.1 hP q0 he rfl 40 (by decide) (hB _ m_1070) (fun _ h => h) hv hdg kk
theorem gX12_body_5 : (decode cX12_body 188 = .ok (.ifCond .eq 7, 3)) ∧ (decode cX12_body 191 = .ok (.iconst 0, 1)) ∧ (decode cX12_body 192 = .ok (.goto 14, 3)) ∧ (decode cX12_body 195 = .ok (.iload_n 3, 1)) ∧ (decode cX12_body 196 = .ok (.aload_n 0, 1)) ∧ (decode cX12_body 197 = .ok (.getfield 375, 3)) ∧ (decode cX12_body 200 = .ok (.aload_n 0, 1)) ∧ (decode cX12_body 201 = .ok (.getfield 378, 3)) ∧ (decode cX12_body 204 = .ok (.isub, 1)) ∧ (decode cX12_body 205 = .ok (.idiv, 1)) := by decide +kernel
theorem gX12_body_16 : (decode cX12_body 359 = .ok (.aload_n 0, 1)) ∧ (decode cX12_body 360 = .ok (.iconst 0, 1)) ∧ (decode cX12_body 361 = .ok (.iconst 3, 1)) ∧ (decode cX12_body 362 = .ok (.iload_n 3, 1)) ∧ (decode cX12_body 363 = .ok (.invokevirtual 357, 3)) ∧ (decode cX12_body 366 = .ok (.istore 5, 2)) ∧ (decode cX12_body 368 = .ok (.aload_n 0, 1)) ∧ (decode cX12_body 369 = .ok (.getfield 380, 3)) ∧ (decode cX12_body 372 = .ok (.ifCond .eq 7, 3)) ∧ (decode cX12_body 375 = .ok (.iconst 0, 1)) := by decide +kernel
theorem gX12_body_17 : (decode cX12_body 376 = .ok (.goto 15, 3)) ∧ (decode cX12_body 379 = .ok (.iload 5, 2)) ∧ (decode cX12_body 381 = .ok (.aload_n 0, 1)) ∧ (decode cX12_body 382 = .ok (.iconst 0, 1)) ∧ (decode cX12_body 383 = .ok (.aload_n 0, 1)) ∧ (decode cX12_body 384 = .ok (.getfield 378, 3)) ∧ (decode cX12_body 387 = .ok (.invokevirtual 372, 3)) ∧ (decode cX12_body 390 = .ok (.isub, 1)) ∧ (decode cX12_body 391 = .ok (.ireturn, 1)) := by decide +kernel
theorem gX12_deal_0 : (decode cX12_deal 0 = .ok (.aload_n 0, 1)) ∧ (decode cX12_deal 1 = .ok (.iconst 0, 1)) ∧ (decode cX12_deal 2 = .ok (.putfield 351, 3)) ∧ (decode cX12_deal 5 = .ok (.iload_n 1, 1)) ∧ (decode cX12_deal 6 = .ok (.invokestatic 336, 3)) ∧ (decode cX12_deal 9 = .ok (.ifCond .eq 10, 3)) ∧ (decode cX12_deal 12 = .ok (.iload_n 2, 1)) ∧ (decode cX12_deal 13 = .ok (.invokestatic 336, 3)) ∧ (decode cX12_deal 16 = .ok (.ifCond .ne 7, 3)) ∧ (decode cX12_deal 19 = .ok (.iconst (-1), 1)) := by decide +kernel
theorem gX12_deal_1 : (decode cX12_deal 20 = .ok (.goto 8, 3)) ∧ (decode cX12_deal 23 = .ok (.aload_n 0, 1)) ∧ (decode cX12_deal 24 = .ok (.iload_n 1, 1)) ∧ (decode cX12_deal 25 = .ok (.invokevirtual 345, 3)) ∧ (decode cX12_deal 28 = .ok (.istore 4, 2)) ∧ (decode cX12_deal 30 = .ok (.iload 4, 2)) ∧ (decode cX12_deal 32 = .ok (.ifCond .ge 5, 3)) ∧ (decode cX12_deal 35 = .ok (.iconst 0, 1)) ∧ (decode cX12_deal 36 = .ok (.ireturn, 1)) ∧ (decode cX12_deal 37 = .ok (.aload_n 0, 1)) := by decide +kernel
theorem gX12_deal_2 : (decode cX12_deal 38 = .ok (.iload 4, 2)) ∧ (decode cX12_deal 40 = .ok (.putfield 354, 3)) ∧ (decode cX12_deal 43 = .ok (.aload_n 0, 1)) ∧ (decode cX12_deal 44 = .ok (.aload_n 0, 1)) ∧ (decode cX12_deal 45 = .ok (.getfield 75, 3)) ∧ (decode cX12_deal 48 = .ok (.iload_n 1, 1)) ∧ (decode cX12_deal 49 = .ok (.iaload, 1)) ∧ (decode cX12_deal 50 = .ok (.putfield 378, 3)) ∧ (decode cX12_deal 53 = .ok (.aload_n 0, 1)) ∧ (decode cX12_deal 54 = .ok (.getfield 72, 3)) := by decide +kernel
theorem pf_X12_354 (hC : CX p s m meth c y0 b0 mL0 rt0 args) (hy0 : y0.cls = RX12) (hK : KK G s) (hP : va_P G.1 vwCl ws H) (hD : va_D A ws) (hS : va_S A H0 H locs) (q0 : Nat) {fs : List Value} {v : Value} {ws' : va_W} (he : ws[q0]? = some (a, .inr (12, fs))) (hl : 36 < fs.length) (hws : ws.set q0 (a, .inr (12, fs.set 36 v)) = ws') (hn : narrow .int v = v) (hfit : fits .int v = true) (hdg : decode b0 pc = .ok (.putfield 354, 3)) (kk : ∀ (H1 : Heap) (locs1 : List Loc), va_P G.1 vwCl ws' H1 → va_D A ws' → va_S A H0 H1 locs1 → W p l e R s m args below meth c H1 locs1 cells slots Q (F0 m (pc + 3) ls rest)) : W p l e R s m args below meth c H locs cells slots Q (F0 m pc ls (v :: .ref a :: rest)) := by
  obtain ⟨hx, hb, hr, hml, hB, hown, hlocks, hnm⟩ := hC
  rw [hy0] at hown
  subst hws
  exact va_put (ci := 12) (ty := .int) (C := RX12) (T := TX12) (N := 41) hx hb hB in_X12 tyX12 tyX12_ok nmX12 hown hK.1 hP hD hS q0 he rfl 36 (by decide) (hB _ m_1066) (fun _ h => h) rfl (by decide +kernel) hn hfit hl hdg kk
theorem pf_X12_378 (hC : CX p s m meth c y0 b0 mL0 rt0 args) (hy0 : y0.cls = RX12) (hK : KK G s) (hP : va_P G.1 vwCl ws H) (hD : va_D A ws) (hS : va_S A H0 H locs) (q0 : Nat) {fs : List Value} {v : Value} {ws' : va_W} (he : ws[q0]? = some (a, .inr (12, fs))) (hl : 37 < fs.length) (hws : ws.set q0 (a, .inr (12, fs.set 37 v)) = ws') (hn : narrow .int v = v) (hfit : fits .int v = true) (hdg : decode b0 pc = .ok (.putfield 378, 3)) (kk : ∀ (H1 : Heap) (locs1 : List Loc), va_P G.1 vwCl ws' H1 → va_D A ws' → va_S A H0 H1 locs1 → W p l e R s m args below meth c H1 locs1 cells slots Q (F0 m (pc + 3) ls rest)) : W p l e R s m args below meth c H locs cells slots Q (F0 m pc ls (v :: .ref a :: rest)) := by
  obtain ⟨hx, hb, hr, hml, hB, hown, hlocks, hnm⟩ := hC
  rw [hy0] at hown
  subst hws
  exact va_put (ci := 12) (ty := .int) (C := RX12) (T := TX12) (N := 41) hx hb hB in_X12 tyX12 tyX12_ok nmX12 hown hK.1 hP hD hS q0 he rfl 37 (by decide) (hB _ m_1067) (fun _ h => h) rfl (by decide +kernel) hn hfit hl hdg kk
theorem gX12_deal_3 : (decode cX12_deal 57 = .ok (.iload_n 1, 1)) ∧ (decode cX12_deal 58 = .ok (.iaload, 1)) ∧ (decode cX12_deal 59 = .ok (.iconst 1, 1)) ∧ (decode cX12_deal 60 = .ok (.if_icmp .ne 7, 3)) ∧ (decode cX12_deal 63 = .ok (.iconst 1, 1)) ∧ (decode cX12_deal 64 = .ok (.goto 4, 3)) ∧ (decode cX12_deal 67 = .ok (.iconst 0, 1)) ∧ (decode cX12_deal 68 = .ok (.istore 5, 2)) ∧ (decode cX12_deal 70 = .ok (.aload_n 0, 1)) ∧ (decode cX12_deal 71 = .ok (.getfield 72, 3)) := by decide +kernel
theorem gX12_deal_4 : (decode cX12_deal 74 = .ok (.iload_n 1, 1)) ∧ (decode cX12_deal 75 = .ok (.iaload, 1)) ∧ (decode cX12_deal 76 = .ok (.iconst 2, 1)) ∧ (decode cX12_deal 77 = .ok (.if_icmp .ne 7, 3)) ∧ (decode cX12_deal 80 = .ok (.iconst 1, 1)) ∧ (decode cX12_deal 81 = .ok (.goto 4, 3)) ∧ (decode cX12_deal 84 = .ok (.iconst 0, 1)) ∧ (decode cX12_deal 85 = .ok (.istore 6, 2)) ∧ (decode cX12_deal 87 = .ok (.aload_n 0, 1)) ∧ (decode cX12_deal 88 = .ok (.iload 5, 2)) := by decide +kernel
theorem gX12_deal_5 : (decode cX12_deal 90 = .ok (.ifCond .eq 15, 3)) ∧ (decode cX12_deal 93 = .ok (.aload_n 0, 1)) ∧ (decode cX12_deal 94 = .ok (.aload_n 0, 1)) ∧ (decode cX12_deal 95 = .ok (.getfield 378, 3)) ∧ (decode cX12_deal 98 = .ok (.iconst 0, 1)) ∧ (decode cX12_deal 99 = .ok (.invokevirtual 88, 3)) ∧ (decode cX12_deal 102 = .ok (.goto 37, 3)) ∧ (decode cX12_deal 105 = .ok (.iload 6, 2)) ∧ (decode cX12_deal 107 = .ok (.ifCond .eq 15, 3)) ∧ (decode cX12_deal 110 = .ok (.aload_n 0, 1)) := by decide +kernel
theorem gX12_deal_7 : (decode cX12_deal 131 = .ok (.getfield 378, 3)) ∧ (decode cX12_deal 134 = .ok (.imul, 1)) ∧ (decode cX12_deal 135 = .ok (.iadd, 1)) ∧ (decode cX12_deal 136 = .ok (.iconst 0, 1)) ∧ (decode cX12_deal 137 = .ok (.iadd, 1)) ∧ (decode cX12_deal 138 = .ok (.iaload, 1)) ∧ (decode cX12_deal 139 = .ok (.putfield 375, 3)) ∧ (decode cX12_deal 142 = .ok (.aload_n 0, 1)) ∧ (decode cX12_deal 143 = .ok (.iload 5, 2)) ∧ (decode cX12_deal 145 = .ok (.ifCond .eq 15, 3)) := by decide +kernel
theorem pf_X12_375 (hC : CX p s m meth c y0 b0 mL0 rt0 args) (hy0 : y0.cls = RX12) (hK : KK G s) (hP : va_P G.1 vwCl ws H) (hD : va_D A ws) (hS : va_S A H0 H locs) (q0 : Nat) {fs : List Value} {v : Value} {ws' : va_W} (he : ws[q0]? = some (a, .inr (12, fs))) (hl : 38 < fs.length) (hws : ws.set q0 (a, .inr (12, fs.set 38 v)) = ws') (hn : narrow .int v = v) (hfit : fits .int v = true) (hdg : decode b0 pc = .ok (.putfield 375, 3)) (kk : ∀ (H1 : Heap) (locs1 : List Loc), va_P G.1 vwCl ws' H1 → va_D A ws' → va_S A H0 H1 locs1 → W p l e R s m args below meth c H1 locs1 cells slots Q (F0 m (pc + 3) ls rest)) : W p l e R s m args below meth c H locs cells slots Q (F0 m pc ls (v :: .ref a :: rest)) := by
  obtain ⟨hx, hb, hr, hml, hB, hown, hlocks, hnm⟩ := hC
  rw [hy0] at hown
  subst hws
  exact va_put (ci := 12) (ty := .int) (C := RX12) (T := TX12) (N := 41) hx hb hB in_X12 tyX12 tyX12_ok nmX12 hown hK.1 hP hD hS q0 he rfl 38 (by decide) (hB _ m_1068) (fun _ h => h) rfl (by decide +kernel) hn hfit hl hdg kk
theorem gX12_deal_8 : (decode cX12_deal 148 = .ok (.aload_n 0, 1)) ∧ (decode cX12_deal 149 = .ok (.aload_n 0, 1)) ∧ (decode cX12_deal 150 = .ok (.getfield 378, 3)) ∧ (decode cX12_deal 153 = .ok (.iconst 2, 1)) ∧ (decode cX12_deal 154 = .ok (.invokevirtual 88, 3)) ∧ (decode cX12_deal 157 = .ok (.goto 37, 3)) ∧ (decode cX12_deal 160 = .ok (.iload 6, 2)) ∧ (decode cX12_deal 162 = .ok (.ifCond .eq 15, 3)) ∧ (decode cX12_deal 165 = .ok (.aload_n 0, 1)) ∧ (decode cX12_deal 166 = .ok (.aload_n 0, 1)) := by decide +kernel
theorem gX12_deal_10 : (decode cX12_deal 189 = .ok (.imul, 1)) ∧ (decode cX12_deal 190 = .ok (.iadd, 1)) ∧ (decode cX12_deal 191 = .ok (.iconst 2, 1)) ∧ (decode cX12_deal 192 = .ok (.iadd, 1)) ∧ (decode cX12_deal 193 = .ok (.iaload, 1)) ∧ (decode cX12_deal 194 = .ok (.putfield 369, 3)) ∧ (decode cX12_deal 197 = .ok (.aload_n 0, 1)) ∧ (decode cX12_deal 198 = .ok (.iconst 0, 1)) ∧ (decode cX12_deal 199 = .ok (.putfield 380, 3)) ∧ (decode cX12_deal 202 = .ok (.aload_n 0, 1)) := by decide +kernel
theorem pf_X12_369 (hC : CX p s m meth c y0 b0 mL0 rt0 args) (hy0 : y0.cls = RX12) (hK : KK G s) (hP : va_P G.1 vwCl ws H) (hD : va_D A ws) (hS : va_S A H0 H locs) (q0 : Nat) {fs : List Value} {v : Value} {ws' : va_W} (he : ws[q0]? = some (a, .inr (12, fs))) (hl : 39 < fs.length) (hws : ws.set q0 (a, .inr (12, fs.set 39 v)) = ws') (hn : narrow .int v = v) (hfit : fits .int v = true) (hdg : decode b0 pc = .ok (.putfield 369, 3)) (kk : ∀ (H1 : Heap) (locs1 : List Loc), va_P G.1 vwCl ws' H1 → va_D A ws' → va_S A H0 H1 locs1 → W p l e R s m args below meth c H1 locs1 cells slots Q (F0 m (pc + 3) ls rest)) : W p l e R s m args below meth c H locs cells slots Q (F0 m pc ls (v :: .ref a :: rest)) := by
  obtain ⟨hx, hb, hr, hml, hB, hown, hlocks, hnm⟩ := hC
  rw [hy0] at hown
  subst hws
  exact va_put (ci := 12) (ty := .int) (C := RX12) (T := TX12) (N := 41) hx hb hB in_X12 tyX12 tyX12_ok nmX12 hown hK.1 hP hD hS q0 he rfl 39 (by decide) (hB _ m_1069) (fun _ h => h) rfl (by decide +kernel) hn hfit hl hdg kk
theorem gX12_deal_11 : (decode cX12_deal 203 = .ok (.iload_n 2, 1)) ∧ (decode cX12_deal 204 = .ok (.iload_n 3, 1)) ∧ (decode cX12_deal 205 = .ok (.invokevirtual 372, 3)) ∧ (decode cX12_deal 208 = .ok (.istore 7, 2)) ∧ (decode cX12_deal 210 = .ok (.aload_n 0, 1)) ∧ (decode cX12_deal 211 = .ok (.getfield 380, 3)) ∧ (decode cX12_deal 214 = .ok (.ifCond .eq 8, 3)) ∧ (decode cX12_deal 217 = .ok (.bipush (-15), 2)) ∧ (decode cX12_deal 219 = .ok (.goto 5, 3)) ∧ (decode cX12_deal 222 = .ok (.iload 7, 2)) := by decide +kernel
theorem gX12_deal_12 : (decode cX12_deal 224 = .ok (.ireturn, 1)) := by decide +kernel
theorem gX12_deal_6 : (decode cX12_deal 111 = .ok (.aload_n 0, 1)) ∧ (decode cX12_deal 112 = .ok (.getfield 378, 3)) ∧ (decode cX12_deal 115 = .ok (.iconst 0, 1)) ∧ (decode cX12_deal 116 = .ok (.invokevirtual 114, 3)) ∧ (decode cX12_deal 119 = .ok (.goto 20, 3)) ∧ (decode cX12_deal 122 = .ok (.aload_n 0, 1)) ∧ (decode cX12_deal 123 = .ok (.getfield 9, 3)) ∧ (decode cX12_deal 126 = .ok (.sipush 1552, 3)) ∧ (decode cX12_deal 129 = .ok (.iconst 4, 1)) ∧ (decode cX12_deal 130 = .ok (.aload_n 0, 1)) := by decide +kernel
theorem gX12_deal_9 : (decode cX12_deal 167 = .ok (.getfield 378, 3)) ∧ (decode cX12_deal 170 = .ok (.iconst 4, 1)) ∧ (decode cX12_deal 171 = .ok (.invokevirtual 114, 3)) ∧ (decode cX12_deal 174 = .ok (.goto 20, 3)) ∧ (decode cX12_deal 177 = .ok (.aload_n 0, 1)) ∧ (decode cX12_deal 178 = .ok (.getfield 9, 3)) ∧ (decode cX12_deal 181 = .ok (.sipush 1552, 3)) ∧ (decode cX12_deal 184 = .ok (.iconst 4, 1)) ∧ (decode cX12_deal 185 = .ok (.aload_n 0, 1)) ∧ (decode cX12_deal 186 = .ok (.getfield 378, 3)) := by decide +kernel
theorem gX12_trace_0 : (decode cX12_trace 0 = .ok (.iload_n 1, 1)) ∧ (decode cX12_trace 1 = .ok (.iconst 0, 1)) ∧ (decode cX12_trace 2 = .ok (.aload_n 0, 1)) ∧ (decode cX12_trace 3 = .ok (.getfield 351, 3)) ∧ (decode cX12_trace 6 = .ok (.iconst 1, 1)) ∧ (decode cX12_trace 7 = .ok (.isub, 1)) ∧ (decode cX12_trace 8 = .ok (.invokestatic 84, 3)) ∧ (decode cX12_trace 11 = .ok (.ifCond .eq 12, 3)) ∧ (decode cX12_trace 14 = .ok (.aload_n 0, 1)) ∧ (decode cX12_trace 15 = .ok (.getfield 81, 3)) := by decide +kernel
theorem gX12_trace_1 : (decode cX12_trace 18 = .ok (.iload_n 1, 1)) ∧ (decode cX12_trace 19 = .ok (.iaload, 1)) ∧ (decode cX12_trace 20 = .ok (.goto 5, 3)) ∧ (decode cX12_trace 23 = .ok (.bipush (-3), 2)) ∧ (decode cX12_trace 25 = .ok (.ireturn, 1)) := by decide +kernel
theorem gX12_many_0 : (decode cX12_many 0 = .ok (.iload_n 1, 1)) ∧ (decode cX12_many 1 = .ok (.tableswitch 212 0 14 #[75, 82, 89, 96, 104, 112, 120, 128, 134, 142, 181, 189, 197, 202, 207], 75)) ∧ (decode cX12_many 76 = .ok (.aload_n 0, 1)) ∧ (decode cX12_many 77 = .ok (.getfield 9, 3)) ∧ (decode cX12_many 80 = .ok (.iconst 0, 1)) ∧ (decode cX12_many 81 = .ok (.iaload, 1)) ∧ (decode cX12_many 82 = .ok (.ireturn, 1)) ∧ (decode cX12_many 83 = .ok (.aload_n 0, 1)) ∧ (decode cX12_many 84 = .ok (.getfield 9, 3)) ∧ (decode cX12_many 87 = .ok (.iconst 4, 1)) := by decide +kernel
theorem gX12_many_1 : (decode cX12_many 88 = .ok (.iaload, 1)) ∧ (decode cX12_many 89 = .ok (.ireturn, 1)) ∧ (decode cX12_many 90 = .ok (.aload_n 0, 1)) ∧ (decode cX12_many 91 = .ok (.getfield 9, 3)) ∧ (decode cX12_many 94 = .ok (.iconst 5, 1)) ∧ (decode cX12_many 95 = .ok (.iaload, 1)) ∧ (decode cX12_many 96 = .ok (.ireturn, 1)) ∧ (decode cX12_many 97 = .ok (.aload_n 0, 1)) ∧ (decode cX12_many 98 = .ok (.invokevirtual 107, 3)) ∧ (decode cX12_many 101 = .ok (.invokestatic 110, 3)) := by decide +kernel
theorem gX12_many_2 : (decode cX12_many 104 = .ok (.ireturn, 1)) ∧ (decode cX12_many 105 = .ok (.aload_n 0, 1)) ∧ (decode cX12_many 106 = .ok (.getfield 9, 3)) ∧ (decode cX12_many 109 = .ok (.bipush 6, 2)) ∧ (decode cX12_many 111 = .ok (.iaload, 1)) ∧ (decode cX12_many 112 = .ok (.ireturn, 1)) ∧ (decode cX12_many 113 = .ok (.aload_n 0, 1)) ∧ (decode cX12_many 114 = .ok (.getfield 9, 3)) ∧ (decode cX12_many 117 = .ok (.bipush 7, 2)) ∧ (decode cX12_many 119 = .ok (.iaload, 1)) := by decide +kernel
theorem gX12_many_3 : (decode cX12_many 120 = .ok (.ireturn, 1)) ∧ (decode cX12_many 121 = .ok (.aload_n 0, 1)) ∧ (decode cX12_many 122 = .ok (.getfield 9, 3)) ∧ (decode cX12_many 125 = .ok (.bipush 8, 2)) ∧ (decode cX12_many 127 = .ok (.iaload, 1)) ∧ (decode cX12_many 128 = .ok (.ireturn, 1)) ∧ (decode cX12_many 129 = .ok (.aload_n 0, 1)) ∧ (decode cX12_many 130 = .ok (.iconst (-1), 1)) ∧ (decode cX12_many 131 = .ok (.invokevirtual 127, 3)) ∧ (decode cX12_many 134 = .ok (.ireturn, 1)) := by decide +kernel
theorem gX12_many_4 : (decode cX12_many 135 = .ok (.aload_n 0, 1)) ∧ (decode cX12_many 136 = .ok (.getfield 9, 3)) ∧ (decode cX12_many 139 = .ok (.bipush 9, 2)) ∧ (decode cX12_many 141 = .ok (.iaload, 1)) ∧ (decode cX12_many 142 = .ok (.ireturn, 1)) ∧ (decode cX12_many 143 = .ok (.iconst 0, 1)) ∧ (decode cX12_many 144 = .ok (.istore_n 2, 1)) ∧ (decode cX12_many 145 = .ok (.iconst 0, 1)) ∧ (decode cX12_many 146 = .ok (.istore_n 3, 1)) ∧ (decode cX12_many 147 = .ok (.iload_n 3, 1)) := by decide +kernel
theorem gX12_many_5 : (decode cX12_many 148 = .ok (.aload_n 0, 1)) ∧ (decode cX12_many 149 = .ok (.getfield 9, 3)) ∧ (decode cX12_many 152 = .ok (.bipush 9, 2)) ∧ (decode cX12_many 154 = .ok (.iaload, 1)) ∧ (decode cX12_many 155 = .ok (.if_icmp .ge 25, 3)) ∧ (decode cX12_many 158 = .ok (.iload_n 2, 1)) ∧ (decode cX12_many 159 = .ok (.aload_n 0, 1)) ∧ (decode cX12_many 160 = .ok (.iload_n 3, 1)) ∧ (decode cX12_many 161 = .ok (.invokevirtual 305, 3)) ∧ (decode cX12_many 164 = .ok (.ifCond .eq 7, 3)) := by decide +kernel
theorem gX12_many_6 : (decode cX12_many 167 = .ok (.iconst 1, 1)) ∧ (decode cX12_many 168 = .ok (.goto 4, 3)) ∧ (decode cX12_many 171 = .ok (.iconst 0, 1)) ∧ (decode cX12_many 172 = .ok (.iadd, 1)) ∧ (decode cX12_many 173 = .ok (.istore_n 2, 1)) ∧ (decode cX12_many 174 = .ok (.iinc 3 1, 3)) ∧ (decode cX12_many 177 = .ok (.goto (-30), 3)) ∧ (decode cX12_many 180 = .ok (.iload_n 2, 1)) ∧ (decode cX12_many 181 = .ok (.ireturn, 1)) ∧ (decode cX12_many 182 = .ok (.aload_n 0, 1)) := by decide +kernel
theorem gX12_many_7 : (decode cX12_many 183 = .ok (.getfield 9, 3)) ∧ (decode cX12_many 186 = .ok (.bipush 10, 2)) ∧ (decode cX12_many 188 = .ok (.iaload, 1)) ∧ (decode cX12_many 189 = .ok (.ireturn, 1)) ∧ (decode cX12_many 190 = .ok (.aload_n 0, 1)) ∧ (decode cX12_many 191 = .ok (.getfield 9, 3)) ∧ (decode cX12_many 194 = .ok (.bipush 11, 2)) ∧ (decode cX12_many 196 = .ok (.iaload, 1)) ∧ (decode cX12_many 197 = .ok (.ireturn, 1)) ∧ (decode cX12_many 198 = .ok (.aload_n 0, 1)) := by decide +kernel
theorem gX12_many_8 : (decode cX12_many 199 = .ok (.getfield 327, 3)) ∧ (decode cX12_many 202 = .ok (.ireturn, 1)) ∧ (decode cX12_many 203 = .ok (.aload_n 0, 1)) ∧ (decode cX12_many 204 = .ok (.getfield 206, 3)) ∧ (decode cX12_many 207 = .ok (.ireturn, 1)) ∧ (decode cX12_many 208 = .ok (.aload_n 0, 1)) ∧ (decode cX12_many 209 = .ok (.getfield 351, 3)) ∧ (decode cX12_many 212 = .ok (.ireturn, 1)) ∧ (decode cX12_many 213 = .ok (.iconst (-1), 1)) ∧ (decode cX12_many 214 = .ok (.ireturn, 1)) := by decide +kernel
theorem m_1034 : Cond.fieldLink RX12 206 "InquiryBenchModel" "taped" "I" ∈ BW := iB_BW55 _ (List.mem_of_getElem? (i := 3) rfl)
theorem gf_X12_206 (hC : CX p s m meth c y0 b0 mL0 rt0 args) (hy0 : y0.cls = RX12) (hK : KK G s) (hP : va_P G.1 vwCl ws H) (q0 : Nat) {fs : List Value} {v : Value} (he : ws[q0]? = some (a, .inr (12, fs))) (hv : fs[4]? = some v) (hdg : decode b0 pc = .ok (.getfield 206, 3)) (kk : W p l e R s m args below meth c H locs cells slots Q (F0 m (pc + 3) ls (v :: rest))) : W p l e R s m args below meth c H locs cells slots Q (F0 m pc ls (.ref a :: rest)) := by
  obtain ⟨hx, hb, hr, hml, hB, hown, hlocks, hnm⟩ := hC
  rw [hy0] at hown
  exact va_get (ci := 12) (C := RX12) (T := TX12) (N := 41) hx hb hB in_X12 hown hK.1 hP q0 he rfl 4 (by decide) (hB _ m_1034) (fun _ h => h) hv hdg kk
theorem gX12_keep_0 : (decode cX12_keep 0 = .ok (.iconst 0, 1)) ∧ (decode cX12_keep 1 = .ok (.istore_n 1, 1)) ∧ (decode cX12_keep 2 = .ok (.iload_n 1, 1)) ∧ (decode cX12_keep 3 = .ok (.sipush 1662, 3)) ∧ (decode cX12_keep 6 = .ok (.if_icmp .ge 21, 3)) ∧ (decode cX12_keep 9 = .ok (.aload_n 0, 1)) ∧ (decode cX12_keep 10 = .ok (.getfield 13, 3)) ∧ (decode cX12_keep 13 = .ok (.iload_n 1, 1)) ∧ (decode cX12_keep 14 = .ok (.aload_n 0, 1)) ∧ (decode cX12_keep 15 = .ok (.getfield 9, 3)) := by decide +kernel
theorem gX12_keep_1 : (decode cX12_keep 18 = .ok (.iload_n 1, 1)) ∧ (decode cX12_keep 19 = .ok (.iaload, 1)) ∧ (decode cX12_keep 20 = .ok (.iastore, 1)) ∧ (decode cX12_keep 21 = .ok (.iinc 1 1, 3)) ∧ (decode cX12_keep 24 = .ok (.goto (-22), 3)) ∧ (decode cX12_keep 27 = .ok (.aload_n 0, 1)) ∧ (decode cX12_keep 28 = .ok (.iconst 1, 1)) ∧ (decode cX12_keep 29 = .ok (.putfield 383, 3)) ∧ (decode cX12_keep 32 = .ok (.iconst 1, 1)) ∧ (decode cX12_keep 33 = .ok (.ireturn, 1)) := by decide +kernel
theorem m_1032 : Cond.fieldLink RX12 383 "InquiryBenchModel" "hasKept" "Z" ∈ BW := iB_BW55 _ (List.mem_of_getElem? (i := 1) rfl)
theorem pf_X12_383 (hC : CX p s m meth c y0 b0 mL0 rt0 args) (hy0 : y0.cls = RX12) (hK : KK G s) (hP : va_P G.1 vwCl ws H) (hD : va_D A ws) (hS : va_S A H0 H locs) (q0 : Nat) {fs : List Value} {v : Value} {ws' : va_W} (he : ws[q0]? = some (a, .inr (12, fs))) (hl : 2 < fs.length) (hws : ws.set q0 (a, .inr (12, fs.set 2 v)) = ws') (hn : narrow .boolean v = v) (hfit : fits .boolean v = true) (hdg : decode b0 pc = .ok (.putfield 383, 3)) (kk : ∀ (H1 : Heap) (locs1 : List Loc), va_P G.1 vwCl ws' H1 → va_D A ws' → va_S A H0 H1 locs1 → W p l e R s m args below meth c H1 locs1 cells slots Q (F0 m (pc + 3) ls rest)) : W p l e R s m args below meth c H locs cells slots Q (F0 m pc ls (v :: .ref a :: rest)) := by
  obtain ⟨hx, hb, hr, hml, hB, hown, hlocks, hnm⟩ := hC
  rw [hy0] at hown
  subst hws
  exact va_put (ci := 12) (ty := .boolean) (C := RX12) (T := TX12) (N := 41) hx hb hB in_X12 tyX12 tyX12_ok nmX12 hown hK.1 hP hD hS q0 he rfl 2 (by decide) (hB _ m_1032) (fun _ h => h) rfl (by decide +kernel) hn hfit hl hdg kk
theorem m_1031 : Cond.fieldLink RX12 13 "InquiryBenchModel" "kept" "[I" ∈ BW := iB_BW55 _ (List.mem_of_getElem? (i := 0) rfl)
theorem gf_X12_13 (hC : CX p s m meth c y0 b0 mL0 rt0 args) (hy0 : y0.cls = RX12) (hK : KK G s) (hP : va_P G.1 vwCl ws H) (q0 : Nat) {fs : List Value} {v : Value} (he : ws[q0]? = some (a, .inr (12, fs))) (hv : fs[1]? = some v) (hdg : decode b0 pc = .ok (.getfield 13, 3)) (kk : W p l e R s m args below meth c H locs cells slots Q (F0 m (pc + 3) ls (v :: rest))) : W p l e R s m args below meth c H locs cells slots Q (F0 m pc ls (.ref a :: rest)) := by
  obtain ⟨hx, hb, hr, hml, hB, hown, hlocks, hnm⟩ := hC
  rw [hy0] at hown
  exact va_get (ci := 12) (C := RX12) (T := TX12) (N := 41) hx hb hB in_X12 hown hK.1 hP q0 he rfl 1 (by decide) (hB _ m_1031) (fun _ h => h) hv hdg kk
theorem gX12_again_0 : (decode cX12_again 0 = .ok (.aload_n 0, 1)) ∧ (decode cX12_again 1 = .ok (.getfield 383, 3)) ∧ (decode cX12_again 4 = .ok (.ifCond .ne 6, 3)) ∧ (decode cX12_again 7 = .ok (.bipush (-3), 2)) ∧ (decode cX12_again 9 = .ok (.ireturn, 1)) ∧ (decode cX12_again 10 = .ok (.iconst 0, 1)) ∧ (decode cX12_again 11 = .ok (.istore_n 1, 1)) ∧ (decode cX12_again 12 = .ok (.iload_n 1, 1)) ∧ (decode cX12_again 13 = .ok (.sipush 1662, 3)) ∧ (decode cX12_again 16 = .ok (.if_icmp .ge 21, 3)) := by decide +kernel
theorem gf_X12_383 (hC : CX p s m meth c y0 b0 mL0 rt0 args) (hy0 : y0.cls = RX12) (hK : KK G s) (hP : va_P G.1 vwCl ws H) (q0 : Nat) {fs : List Value} {v : Value} (he : ws[q0]? = some (a, .inr (12, fs))) (hv : fs[2]? = some v) (hdg : decode b0 pc = .ok (.getfield 383, 3)) (kk : W p l e R s m args below meth c H locs cells slots Q (F0 m (pc + 3) ls (v :: rest))) : W p l e R s m args below meth c H locs cells slots Q (F0 m pc ls (.ref a :: rest)) := by
  obtain ⟨hx, hb, hr, hml, hB, hown, hlocks, hnm⟩ := hC
  rw [hy0] at hown
  exact va_get (ci := 12) (C := RX12) (T := TX12) (N := 41) hx hb hB in_X12 hown hK.1 hP q0 he rfl 2 (by decide) (hB _ m_1032) (fun _ h => h) hv hdg kk
theorem gX12_again_2 : (decode cX12_again 37 = .ok (.iconst 1, 1)) ∧ (decode cX12_again 38 = .ok (.ireturn, 1)) := by decide +kernel
theorem gX12_again_1 : (decode cX12_again 19 = .ok (.aload_n 0, 1)) ∧ (decode cX12_again 20 = .ok (.getfield 9, 3)) ∧ (decode cX12_again 23 = .ok (.iload_n 1, 1)) ∧ (decode cX12_again 24 = .ok (.aload_n 0, 1)) ∧ (decode cX12_again 25 = .ok (.getfield 13, 3)) ∧ (decode cX12_again 28 = .ok (.iload_n 1, 1)) ∧ (decode cX12_again 29 = .ok (.iaload, 1)) ∧ (decode cX12_again 30 = .ok (.iastore, 1)) ∧ (decode cX12_again 31 = .ok (.iinc 1 1, 3)) ∧ (decode cX12_again 34 = .ok (.goto (-22), 3)) := by decide +kernel
end WR
theorem rm_12_1_2 {mc ms : Nat} : 1 + 1 ≤ (RM 12 mc ms).frames ∧ 8 + (2 + 11) + 40 * 1 ≤ (RM 12 mc ms).locals := ⟨by show 1 + 1 ≤ 12; decide, by show 8 + (2 + 11) + 40 * 1 ≤ 40 * 12; decide⟩
theorem rm_12_1_1 {mc ms : Nat} : 1 + 1 ≤ (RM 12 mc ms).frames ∧ 8 + (1 + 11) + 40 * 1 ≤ (RM 12 mc ms).locals := ⟨by show 1 + 1 ≤ 12; decide, by show 8 + (1 + 11) + 40 * 1 ≤ 40 * 12; decide⟩
theorem rm_12_3_6 {mc ms : Nat} : 3 + 1 ≤ (RM 12 mc ms).frames ∧ 8 + (6 + 11) + 40 * 3 ≤ (RM 12 mc ms).locals := ⟨by show 3 + 1 ≤ 12; decide, by show 8 + (6 + 11) + 40 * 3 ≤ 40 * 12; decide⟩
theorem rm_14_4_5 {mc ms : Nat} : 4 + 1 ≤ (RM 14 mc ms).frames ∧ 8 + (5 + 11) + 40 * 4 ≤ (RM 14 mc ms).locals := ⟨by show 4 + 1 ≤ 14; decide, by show 8 + (5 + 11) + 40 * 4 ≤ 40 * 14; decide⟩
theorem rm_14_12_5 {mc ms : Nat} : 12 + 1 ≤ (RM 14 mc ms).frames ∧ 8 + (5 + 11) + 40 * 12 ≤ (RM 14 mc ms).locals := ⟨by show 12 + 1 ≤ 14; decide, by show 8 + (5 + 11) + 40 * 12 ≤ 40 * 14; decide⟩
theorem rm_14_6_5 {mc ms : Nat} : 6 + 1 ≤ (RM 14 mc ms).frames ∧ 8 + (5 + 11) + 40 * 6 ≤ (RM 14 mc ms).locals := ⟨by show 6 + 1 ≤ 14; decide, by show 8 + (5 + 11) + 40 * 6 ≤ 40 * 14; decide⟩
theorem rm_14_8_5 {mc ms : Nat} : 8 + 1 ≤ (RM 14 mc ms).frames ∧ 8 + (5 + 11) + 40 * 8 ≤ (RM 14 mc ms).locals := ⟨by show 8 + 1 ≤ 14; decide, by show 8 + (5 + 11) + 40 * 8 ≤ 40 * 14; decide⟩
theorem rm_15_1_2 {mc ms : Nat} : 1 + 1 ≤ (RM 15 mc ms).frames ∧ 8 + (2 + 11) + 40 * 1 ≤ (RM 15 mc ms).locals := ⟨by show 1 + 1 ≤ 15; decide, by show 8 + (2 + 11) + 40 * 1 ≤ 40 * 15; decide⟩
theorem rm_15_14_3 {mc ms : Nat} : 14 + 1 ≤ (RM 15 mc ms).frames ∧ 8 + (3 + 11) + 40 * 14 ≤ (RM 15 mc ms).locals := ⟨by show 14 + 1 ≤ 15; decide, by show 8 + (3 + 11) + 40 * 14 ≤ 40 * 15; decide⟩
theorem rm_16_1_2 {mc ms : Nat} : 1 + 1 ≤ (RM 16 mc ms).frames ∧ 8 + (2 + 11) + 40 * 1 ≤ (RM 16 mc ms).locals := ⟨by show 1 + 1 ≤ 16; decide, by show 8 + (2 + 11) + 40 * 1 ≤ 40 * 16; decide⟩
theorem rm_16_15_6 {mc ms : Nat} : 15 + 1 ≤ (RM 16 mc ms).frames ∧ 8 + (6 + 11) + 40 * 15 ≤ (RM 16 mc ms).locals := ⟨by show 15 + 1 ≤ 16; decide, by show 8 + (6 + 11) + 40 * 15 ≤ 40 * 16; decide⟩
theorem rm_17_1_2 {mc ms : Nat} : 1 + 1 ≤ (RM 17 mc ms).frames ∧ 8 + (2 + 11) + 40 * 1 ≤ (RM 17 mc ms).locals := ⟨by show 1 + 1 ≤ 17; decide, by show 8 + (2 + 11) + 40 * 1 ≤ 40 * 17; decide⟩
theorem rm_17_16_5 {mc ms : Nat} : 16 + 1 ≤ (RM 17 mc ms).frames ∧ 8 + (5 + 11) + 40 * 16 ≤ (RM 17 mc ms).locals := ⟨by show 16 + 1 ≤ 17; decide, by show 8 + (5 + 11) + 40 * 16 ≤ 40 * 17; decide⟩
theorem rm_18_1_2 {mc ms : Nat} : 1 + 1 ≤ (RM 18 mc ms).frames ∧ 8 + (2 + 11) + 40 * 1 ≤ (RM 18 mc ms).locals := ⟨by show 1 + 1 ≤ 18; decide, by show 8 + (2 + 11) + 40 * 1 ≤ 40 * 18; decide⟩
theorem rm_18_17_6 {mc ms : Nat} : 17 + 1 ≤ (RM 18 mc ms).frames ∧ 8 + (6 + 11) + 40 * 17 ≤ (RM 18 mc ms).locals := ⟨by show 17 + 1 ≤ 18; decide, by show 8 + (6 + 11) + 40 * 17 ≤ 40 * 18; decide⟩
theorem rm_19_1_2 {mc ms : Nat} : 1 + 1 ≤ (RM 19 mc ms).frames ∧ 8 + (2 + 11) + 40 * 1 ≤ (RM 19 mc ms).locals := ⟨by show 1 + 1 ≤ 19; decide, by show 8 + (2 + 11) + 40 * 1 ≤ 40 * 19; decide⟩
theorem rm_19_18_5 {mc ms : Nat} : 18 + 1 ≤ (RM 19 mc ms).frames ∧ 8 + (5 + 11) + 40 * 18 ≤ (RM 19 mc ms).locals := ⟨by show 18 + 1 ≤ 19; decide, by show 8 + (5 + 11) + 40 * 18 ≤ 40 * 19; decide⟩
theorem rm_20_1_2 {mc ms : Nat} : 1 + 1 ≤ (RM 20 mc ms).frames ∧ 8 + (2 + 11) + 40 * 1 ≤ (RM 20 mc ms).locals := ⟨by show 1 + 1 ≤ 20; decide, by show 8 + (2 + 11) + 40 * 1 ≤ 40 * 20; decide⟩
theorem rm_20_19_6 {mc ms : Nat} : 19 + 1 ≤ (RM 20 mc ms).frames ∧ 8 + (6 + 11) + 40 * 19 ≤ (RM 20 mc ms).locals := ⟨by show 19 + 1 ≤ 20; decide, by show 8 + (6 + 11) + 40 * 19 ≤ 40 * 20; decide⟩
theorem rm_24_1_2 {mc ms : Nat} : 1 + 1 ≤ (RM 24 mc ms).frames ∧ 8 + (2 + 11) + 40 * 1 ≤ (RM 24 mc ms).locals := ⟨by show 1 + 1 ≤ 24; decide, by show 8 + (2 + 11) + 40 * 1 ≤ 40 * 24; decide⟩
theorem rm_24_1_1 {mc ms : Nat} : 1 + 1 ≤ (RM 24 mc ms).frames ∧ 8 + (1 + 11) + 40 * 1 ≤ (RM 24 mc ms).locals := ⟨by show 1 + 1 ≤ 24; decide, by show 8 + (1 + 11) + 40 * 1 ≤ 40 * 24; decide⟩
theorem rm_24_15_6 {mc ms : Nat} : 15 + 1 ≤ (RM 24 mc ms).frames ∧ 8 + (6 + 11) + 40 * 15 ≤ (RM 24 mc ms).locals := ⟨by show 15 + 1 ≤ 24; decide, by show 8 + (6 + 11) + 40 * 15 ≤ 40 * 24; decide⟩
theorem rm_26_16_5 {mc ms : Nat} : 16 + 1 ≤ (RM 26 mc ms).frames ∧ 8 + (5 + 11) + 40 * 16 ≤ (RM 26 mc ms).locals := ⟨by show 16 + 1 ≤ 26; decide, by show 8 + (5 + 11) + 40 * 16 ≤ 40 * 26; decide⟩
theorem rm_26_18_5 {mc ms : Nat} : 18 + 1 ≤ (RM 26 mc ms).frames ∧ 8 + (5 + 11) + 40 * 18 ≤ (RM 26 mc ms).locals := ⟨by show 18 + 1 ≤ 26; decide, by show 8 + (5 + 11) + 40 * 18 ≤ 40 * 26; decide⟩
theorem rm_26_24_5 {mc ms : Nat} : 24 + 1 ≤ (RM 26 mc ms).frames ∧ 8 + (5 + 11) + 40 * 24 ≤ (RM 26 mc ms).locals := ⟨by show 24 + 1 ≤ 26; decide, by show 8 + (5 + 11) + 40 * 24 ≤ 40 * 26; decide⟩
theorem rm_26_20_5 {mc ms : Nat} : 20 + 1 ≤ (RM 26 mc ms).frames ∧ 8 + (5 + 11) + 40 * 20 ≤ (RM 26 mc ms).locals := ⟨by show 20 + 1 ≤ 26; decide, by show 8 + (5 + 11) + 40 * 20 ≤ 40 * 26; decide⟩
theorem rm_27_1_2 {mc ms : Nat} : 1 + 1 ≤ (RM 27 mc ms).frames ∧ 8 + (2 + 11) + 40 * 1 ≤ (RM 27 mc ms).locals := ⟨by show 1 + 1 ≤ 27; decide, by show 8 + (2 + 11) + 40 * 1 ≤ 40 * 27; decide⟩
theorem rm_27_26_3 {mc ms : Nat} : 26 + 1 ≤ (RM 27 mc ms).frames ∧ 8 + (3 + 11) + 40 * 26 ≤ (RM 27 mc ms).locals := ⟨by show 26 + 1 ≤ 27; decide, by show 8 + (3 + 11) + 40 * 26 ≤ 40 * 27; decide⟩
theorem rm_28_1_2 {mc ms : Nat} : 1 + 1 ≤ (RM 28 mc ms).frames ∧ 8 + (2 + 11) + 40 * 1 ≤ (RM 28 mc ms).locals := ⟨by show 1 + 1 ≤ 28; decide, by show 8 + (2 + 11) + 40 * 1 ≤ 40 * 28; decide⟩
theorem rm_28_27_6 {mc ms : Nat} : 27 + 1 ≤ (RM 28 mc ms).frames ∧ 8 + (6 + 11) + 40 * 27 ≤ (RM 28 mc ms).locals := ⟨by show 27 + 1 ≤ 28; decide, by show 8 + (6 + 11) + 40 * 27 ≤ 40 * 28; decide⟩
theorem rm_29_1_2 {mc ms : Nat} : 1 + 1 ≤ (RM 29 mc ms).frames ∧ 8 + (2 + 11) + 40 * 1 ≤ (RM 29 mc ms).locals := ⟨by show 1 + 1 ≤ 29; decide, by show 8 + (2 + 11) + 40 * 1 ≤ 40 * 29; decide⟩
theorem rm_29_28_5 {mc ms : Nat} : 28 + 1 ≤ (RM 29 mc ms).frames ∧ 8 + (5 + 11) + 40 * 28 ≤ (RM 29 mc ms).locals := ⟨by show 28 + 1 ≤ 29; decide, by show 8 + (5 + 11) + 40 * 28 ≤ 40 * 29; decide⟩
theorem rm_30_1_2 {mc ms : Nat} : 1 + 1 ≤ (RM 30 mc ms).frames ∧ 8 + (2 + 11) + 40 * 1 ≤ (RM 30 mc ms).locals := ⟨by show 1 + 1 ≤ 30; decide, by show 8 + (2 + 11) + 40 * 1 ≤ 40 * 30; decide⟩
theorem rm_30_29_6 {mc ms : Nat} : 29 + 1 ≤ (RM 30 mc ms).frames ∧ 8 + (6 + 11) + 40 * 29 ≤ (RM 30 mc ms).locals := ⟨by show 29 + 1 ≤ 30; decide, by show 8 + (6 + 11) + 40 * 29 ≤ 40 * 30; decide⟩
theorem rm_31_28_5 {mc ms : Nat} : 28 + 1 ≤ (RM 31 mc ms).frames ∧ 8 + (5 + 11) + 40 * 28 ≤ (RM 31 mc ms).locals := ⟨by show 28 + 1 ≤ 31; decide, by show 8 + (5 + 11) + 40 * 28 ≤ 40 * 31; decide⟩
theorem rm_31_26_3 {mc ms : Nat} : 26 + 1 ≤ (RM 31 mc ms).frames ∧ 8 + (3 + 11) + 40 * 26 ≤ (RM 31 mc ms).locals := ⟨by show 26 + 1 ≤ 31; decide, by show 8 + (3 + 11) + 40 * 26 ≤ 40 * 31; decide⟩
theorem rm_32_1_2 {mc ms : Nat} : 1 + 1 ≤ (RM 32 mc ms).frames ∧ 8 + (2 + 11) + 40 * 1 ≤ (RM 32 mc ms).locals := ⟨by show 1 + 1 ≤ 32; decide, by show 8 + (2 + 11) + 40 * 1 ≤ 40 * 32; decide⟩
theorem rm_32_31_6 {mc ms : Nat} : 31 + 1 ≤ (RM 32 mc ms).frames ∧ 8 + (6 + 11) + 40 * 31 ≤ (RM 32 mc ms).locals := ⟨by show 31 + 1 ≤ 32; decide, by show 8 + (6 + 11) + 40 * 31 ≤ 40 * 32; decide⟩
theorem rm_33_1_2 {mc ms : Nat} : 1 + 1 ≤ (RM 33 mc ms).frames ∧ 8 + (2 + 11) + 40 * 1 ≤ (RM 33 mc ms).locals := ⟨by show 1 + 1 ≤ 33; decide, by show 8 + (2 + 11) + 40 * 1 ≤ 40 * 33; decide⟩
theorem rm_33_32_5 {mc ms : Nat} : 32 + 1 ≤ (RM 33 mc ms).frames ∧ 8 + (5 + 11) + 40 * 32 ≤ (RM 33 mc ms).locals := ⟨by show 32 + 1 ≤ 33; decide, by show 8 + (5 + 11) + 40 * 32 ≤ 40 * 33; decide⟩
theorem rm_34_1_2 {mc ms : Nat} : 1 + 1 ≤ (RM 34 mc ms).frames ∧ 8 + (2 + 11) + 40 * 1 ≤ (RM 34 mc ms).locals := ⟨by show 1 + 1 ≤ 34; decide, by show 8 + (2 + 11) + 40 * 1 ≤ 40 * 34; decide⟩
theorem rm_34_33_6 {mc ms : Nat} : 33 + 1 ≤ (RM 34 mc ms).frames ∧ 8 + (6 + 11) + 40 * 33 ≤ (RM 34 mc ms).locals := ⟨by show 33 + 1 ≤ 34; decide, by show 8 + (6 + 11) + 40 * 33 ≤ 40 * 34; decide⟩
theorem rm_36_1_2 {mc ms : Nat} : 1 + 1 ≤ (RM 36 mc ms).frames ∧ 8 + (2 + 11) + 40 * 1 ≤ (RM 36 mc ms).locals := ⟨by show 1 + 1 ≤ 36; decide, by show 8 + (2 + 11) + 40 * 1 ≤ 40 * 36; decide⟩
theorem rm_36_1_1 {mc ms : Nat} : 1 + 1 ≤ (RM 36 mc ms).frames ∧ 8 + (1 + 11) + 40 * 1 ≤ (RM 36 mc ms).locals := ⟨by show 1 + 1 ≤ 36; decide, by show 8 + (1 + 11) + 40 * 1 ≤ 40 * 36; decide⟩
theorem rm_36_27_6 {mc ms : Nat} : 27 + 1 ≤ (RM 36 mc ms).frames ∧ 8 + (6 + 11) + 40 * 27 ≤ (RM 36 mc ms).locals := ⟨by show 27 + 1 ≤ 36; decide, by show 8 + (6 + 11) + 40 * 27 ≤ 40 * 36; decide⟩
theorem rm_38_28_5 {mc ms : Nat} : 28 + 1 ≤ (RM 38 mc ms).frames ∧ 8 + (5 + 11) + 40 * 28 ≤ (RM 38 mc ms).locals := ⟨by show 28 + 1 ≤ 38; decide, by show 8 + (5 + 11) + 40 * 28 ≤ 40 * 38; decide⟩
theorem rm_38_36_5 {mc ms : Nat} : 36 + 1 ≤ (RM 38 mc ms).frames ∧ 8 + (5 + 11) + 40 * 36 ≤ (RM 38 mc ms).locals := ⟨by show 36 + 1 ≤ 38; decide, by show 8 + (5 + 11) + 40 * 36 ≤ 40 * 38; decide⟩
theorem rm_38_30_5 {mc ms : Nat} : 30 + 1 ≤ (RM 38 mc ms).frames ∧ 8 + (5 + 11) + 40 * 30 ≤ (RM 38 mc ms).locals := ⟨by show 30 + 1 ≤ 38; decide, by show 8 + (5 + 11) + 40 * 30 ≤ 40 * 38; decide⟩
theorem rm_38_32_5 {mc ms : Nat} : 32 + 1 ≤ (RM 38 mc ms).frames ∧ 8 + (5 + 11) + 40 * 32 ≤ (RM 38 mc ms).locals := ⟨by show 32 + 1 ≤ 38; decide, by show 8 + (5 + 11) + 40 * 32 ≤ 40 * 38; decide⟩
theorem rm_38_34_5 {mc ms : Nat} : 34 + 1 ≤ (RM 38 mc ms).frames ∧ 8 + (5 + 11) + 40 * 34 ≤ (RM 38 mc ms).locals := ⟨by show 34 + 1 ≤ 38; decide, by show 8 + (5 + 11) + 40 * 34 ≤ 40 * 38; decide⟩
theorem rm_39_1_2 {mc ms : Nat} : 1 + 1 ≤ (RM 39 mc ms).frames ∧ 8 + (2 + 11) + 40 * 1 ≤ (RM 39 mc ms).locals := ⟨by show 1 + 1 ≤ 39; decide, by show 8 + (2 + 11) + 40 * 1 ≤ 40 * 39; decide⟩
theorem rm_40_39_6 {mc ms : Nat} : 39 + 1 ≤ (RM 40 mc ms).frames ∧ 8 + (6 + 11) + 40 * 39 ≤ (RM 40 mc ms).locals := ⟨by show 39 + 1 ≤ 40; decide, by show 8 + (6 + 11) + 40 * 39 ≤ 40 * 40; decide⟩
theorem rm_42_1_2 {mc ms : Nat} : 1 + 1 ≤ (RM 42 mc ms).frames ∧ 8 + (2 + 11) + 40 * 1 ≤ (RM 42 mc ms).locals := ⟨by show 1 + 1 ≤ 42; decide, by show 8 + (2 + 11) + 40 * 1 ≤ 40 * 42; decide⟩
theorem rm_42_39_6 {mc ms : Nat} : 39 + 1 ≤ (RM 42 mc ms).frames ∧ 8 + (6 + 11) + 40 * 39 ≤ (RM 42 mc ms).locals := ⟨by show 39 + 1 ≤ 42; decide, by show 8 + (6 + 11) + 40 * 39 ≤ 40 * 42; decide⟩
theorem rm_43_1_2 {mc ms : Nat} : 1 + 1 ≤ (RM 43 mc ms).frames ∧ 8 + (2 + 11) + 40 * 1 ≤ (RM 43 mc ms).locals := ⟨by show 1 + 1 ≤ 43; decide, by show 8 + (2 + 11) + 40 * 1 ≤ 40 * 43; decide⟩
theorem rm_43_42_5 {mc ms : Nat} : 42 + 1 ≤ (RM 43 mc ms).frames ∧ 8 + (5 + 11) + 40 * 42 ≤ (RM 43 mc ms).locals := ⟨by show 42 + 1 ≤ 43; decide, by show 8 + (5 + 11) + 40 * 42 ≤ 40 * 43; decide⟩
theorem rm_44_1_2 {mc ms : Nat} : 1 + 1 ≤ (RM 44 mc ms).frames ∧ 8 + (2 + 11) + 40 * 1 ≤ (RM 44 mc ms).locals := ⟨by show 1 + 1 ≤ 44; decide, by show 8 + (2 + 11) + 40 * 1 ≤ 40 * 44; decide⟩
theorem rm_44_43_6 {mc ms : Nat} : 43 + 1 ≤ (RM 44 mc ms).frames ∧ 8 + (6 + 11) + 40 * 43 ≤ (RM 44 mc ms).locals := ⟨by show 43 + 1 ≤ 44; decide, by show 8 + (6 + 11) + 40 * 43 ≤ 40 * 44; decide⟩
theorem rm_45_1_2 {mc ms : Nat} : 1 + 1 ≤ (RM 45 mc ms).frames ∧ 8 + (2 + 11) + 40 * 1 ≤ (RM 45 mc ms).locals := ⟨by show 1 + 1 ≤ 45; decide, by show 8 + (2 + 11) + 40 * 1 ≤ 40 * 45; decide⟩
theorem rm_45_40_5 {mc ms : Nat} : 40 + 1 ≤ (RM 45 mc ms).frames ∧ 8 + (5 + 11) + 40 * 40 ≤ (RM 45 mc ms).locals := ⟨by show 40 + 1 ≤ 45; decide, by show 8 + (5 + 11) + 40 * 40 ≤ 40 * 45; decide⟩
theorem rm_45_14_3 {mc ms : Nat} : 14 + 1 ≤ (RM 45 mc ms).frames ∧ 8 + (3 + 11) + 40 * 14 ≤ (RM 45 mc ms).locals := ⟨by show 14 + 1 ≤ 45; decide, by show 8 + (3 + 11) + 40 * 14 ≤ 40 * 45; decide⟩
theorem rm_46_1_2 {mc ms : Nat} : 1 + 1 ≤ (RM 46 mc ms).frames ∧ 8 + (2 + 11) + 40 * 1 ≤ (RM 46 mc ms).locals := ⟨by show 1 + 1 ≤ 46; decide, by show 8 + (2 + 11) + 40 * 1 ≤ 40 * 46; decide⟩
theorem rm_46_45_6 {mc ms : Nat} : 45 + 1 ≤ (RM 46 mc ms).frames ∧ 8 + (6 + 11) + 40 * 45 ≤ (RM 46 mc ms).locals := ⟨by show 45 + 1 ≤ 46; decide, by show 8 + (6 + 11) + 40 * 45 ≤ 40 * 46; decide⟩
theorem rm_48_1_2 {mc ms : Nat} : 1 + 1 ≤ (RM 48 mc ms).frames ∧ 8 + (2 + 11) + 40 * 1 ≤ (RM 48 mc ms).locals := ⟨by show 1 + 1 ≤ 48; decide, by show 8 + (2 + 11) + 40 * 1 ≤ 40 * 48; decide⟩
theorem rm_48_1_1 {mc ms : Nat} : 1 + 1 ≤ (RM 48 mc ms).frames ∧ 8 + (1 + 11) + 40 * 1 ≤ (RM 48 mc ms).locals := ⟨by show 1 + 1 ≤ 48; decide, by show 8 + (1 + 11) + 40 * 1 ≤ 40 * 48; decide⟩
theorem rm_48_39_6 {mc ms : Nat} : 39 + 1 ≤ (RM 48 mc ms).frames ∧ 8 + (6 + 11) + 40 * 39 ≤ (RM 48 mc ms).locals := ⟨by show 39 + 1 ≤ 48; decide, by show 8 + (6 + 11) + 40 * 39 ≤ 40 * 48; decide⟩
theorem rm_50_40_5 {mc ms : Nat} : 40 + 1 ≤ (RM 50 mc ms).frames ∧ 8 + (5 + 11) + 40 * 40 ≤ (RM 50 mc ms).locals := ⟨by show 40 + 1 ≤ 50; decide, by show 8 + (5 + 11) + 40 * 40 ≤ 40 * 50; decide⟩
theorem rm_50_42_5 {mc ms : Nat} : 42 + 1 ≤ (RM 50 mc ms).frames ∧ 8 + (5 + 11) + 40 * 42 ≤ (RM 50 mc ms).locals := ⟨by show 42 + 1 ≤ 50; decide, by show 8 + (5 + 11) + 40 * 42 ≤ 40 * 50; decide⟩
theorem rm_50_48_5 {mc ms : Nat} : 48 + 1 ≤ (RM 50 mc ms).frames ∧ 8 + (5 + 11) + 40 * 48 ≤ (RM 50 mc ms).locals := ⟨by show 48 + 1 ≤ 50; decide, by show 8 + (5 + 11) + 40 * 48 ≤ 40 * 50; decide⟩
theorem rm_50_44_5 {mc ms : Nat} : 44 + 1 ≤ (RM 50 mc ms).frames ∧ 8 + (5 + 11) + 40 * 44 ≤ (RM 50 mc ms).locals := ⟨by show 44 + 1 ≤ 50; decide, by show 8 + (5 + 11) + 40 * 44 ≤ 40 * 50; decide⟩
theorem rm_50_46_5 {mc ms : Nat} : 46 + 1 ≤ (RM 50 mc ms).frames ∧ 8 + (5 + 11) + 40 * 46 ≤ (RM 50 mc ms).locals := ⟨by show 46 + 1 ≤ 50; decide, by show 8 + (5 + 11) + 40 * 46 ≤ 40 * 50; decide⟩
theorem rm_60_2_1 {mc ms : Nat} : 2 + 1 ≤ (RM 60 mc ms).frames ∧ 8 + (1 + 11) + 40 * 2 ≤ (RM 60 mc ms).locals := ⟨by show 2 + 1 ≤ 60; decide, by show 8 + (1 + 11) + 40 * 2 ≤ 40 * 60; decide⟩
theorem rm_60_3_4 {mc ms : Nat} : 3 + 1 ≤ (RM 60 mc ms).frames ∧ 8 + (4 + 11) + 40 * 3 ≤ (RM 60 mc ms).locals := ⟨by show 3 + 1 ≤ 60; decide, by show 8 + (4 + 11) + 40 * 3 ≤ 40 * 60; decide⟩
theorem rm_60_1_3 {mc ms : Nat} : 1 + 1 ≤ (RM 60 mc ms).frames ∧ 8 + (3 + 11) + 40 * 1 ≤ (RM 60 mc ms).locals := ⟨by show 1 + 1 ≤ 60; decide, by show 8 + (3 + 11) + 40 * 1 ≤ 40 * 60; decide⟩
theorem rm_60_14_3 {mc ms : Nat} : 14 + 1 ≤ (RM 60 mc ms).frames ∧ 8 + (3 + 11) + 40 * 14 ≤ (RM 60 mc ms).locals := ⟨by show 14 + 1 ≤ 60; decide, by show 8 + (3 + 11) + 40 * 14 ≤ 40 * 60; decide⟩
theorem dj_0_4__1_2_3 : ∀ i ∈ ([1, 2, 3] : List Nat), i ∉ ([0, 4] : List Nat) := by decide
theorem rm_60_26_3 {mc ms : Nat} : 26 + 1 ≤ (RM 60 mc ms).frames ∧ 8 + (3 + 11) + 40 * 26 ≤ (RM 60 mc ms).locals := ⟨by show 26 + 1 ≤ 60; decide, by show 8 + (3 + 11) + 40 * 26 ≤ 40 * 60; decide⟩
theorem rm_60_38_3 {mc ms : Nat} : 38 + 1 ≤ (RM 60 mc ms).frames ∧ 8 + (3 + 11) + 40 * 38 ≤ (RM 60 mc ms).locals := ⟨by show 38 + 1 ≤ 60; decide, by show 8 + (3 + 11) + 40 * 38 ≤ 40 * 60; decide⟩
theorem rm_60_50_3 {mc ms : Nat} : 50 + 1 ≤ (RM 60 mc ms).frames ∧ 8 + (3 + 11) + 40 * 50 ≤ (RM 60 mc ms).locals := ⟨by show 50 + 1 ≤ 60; decide, by show 8 + (3 + 11) + 40 * 50 ≤ 40 * 60; decide⟩
theorem rm_10_5_4 {mc ms : Nat} : 5 + 1 ≤ (RM 10 mc ms).frames ∧ 8 + (4 + 11) + 40 * 5 ≤ (RM 10 mc ms).locals := ⟨by show 5 + 1 ≤ 10; decide, by show 8 + (4 + 11) + 40 * 5 ≤ 40 * 10; decide⟩
def K_m_kindOn (l : Launch) (G : GG) (h0 : Nat) (jt : Nat) (nw : Nat) (nk : Nat) (mhasKept : Int32) (nt : Nat) (mtaped : Int32) (nr : Nat) (mrowMany : Int32) (mroundOf : Int32) (mroundFrom : Int32) (mouts : Int32) (nm : Nat) (mfromHour : Int32) (mtoHour : Int32) (ns : Nat) (mfrom : Int32) (mto : Int32) (msort : Int32) (misFault : Int32) (mdeep : Int32) (mcoded : Int32) (mlines : Int32) (nl : Nat) (nc : Nat) (nF : Nat) (np : Nat) (ntr : Nat) (nb : Nat) (mbestCost : Int32) (nso : Nat) (nsi : Nat) (nit : Nat) (nsh : Nat) (nsf : Nat) (nss : Nat) (nrc : Nat) (mtraced : Int32) (mdealer : Int32) (mnumber : Int32) (mwhose : Int32) (msize : Int32) (misParted : Int32) (fnw : Nat → Int32) (fnsh : Nat → Int32) (fnsf : Nat → Int32) : Prop := MP l G yX12_kindOn cX12_kindOn 4 (some .int) 3 [.ref h0, .int (nI jt)] [(h0, oX12 nw nk mhasKept nt mtaped nr mrowMany mroundOf mroundFrom mouts nm mfromHour mtoHour ns mfrom mto msort misFault mdeep mcoded mlines nl nc nF np ntr nb mbestCost nso nsi nit nsh nsf nss nrc mtraced mdealer mnumber mwhose msize misParted), (nw, iA G 1662 fnw), (nsh, iA G 4 fnsh), (nsf, iA G 4 fnsf)] (fun r : Int32 => r = (-1) ∨ (r = 1 ∧ KO1 (fnsh jt) (fnsf jt) 1 12) ∨ (r = 2 ∧ KO1 (fnsh jt) (fnsf jt) 1 12) ∨ (r = 3 ∧ KO1 (fnsh jt) (fnsf jt) 1 12) ∨ (r = 4 ∧ KO1 (fnsh jt) (fnsf jt) 2 16) ∨ (r = 5 ∧ KO1 (fnsh jt) (fnsf jt) 2 16) ∨ (r = 6 ∧ KO1 (fnsh jt) (fnsf jt) 3 12))
set_option maxHeartbeats 4000000 in
set_option maxRecDepth 100000 in
theorem m_kindOn (l : Launch) (G : GG) (h0 : Nat) (jt : Nat) (nw : Nat) (nk : Nat) (mhasKept : Int32) (nt : Nat) (mtaped : Int32) (nr : Nat) (mrowMany : Int32) (mroundOf : Int32) (mroundFrom : Int32) (mouts : Int32) (nm : Nat) (mfromHour : Int32) (mtoHour : Int32) (ns : Nat) (mfrom : Int32) (mto : Int32) (msort : Int32) (misFault : Int32) (mdeep : Int32) (mcoded : Int32) (mlines : Int32) (nl : Nat) (nc : Nat) (nF : Nat) (np : Nat) (ntr : Nat) (nb : Nat) (mbestCost : Int32) (nso : Nat) (nsi : Nat) (nit : Nat) (nsh : Nat) (nsf : Nat) (nss : Nat) (nrc : Nat) (mtraced : Int32) (mdealer : Int32) (mnumber : Int32) (mwhose : Int32) (msize : Int32) (misParted : Int32) (fnw : Nat → Int32) (fnsh : Nat → Int32) (fnsf : Nat → Int32) (hjt : jt < 4) (hN : NI fnw) : K_m_kindOn l G h0 jt nw nk mhasKept nt mtaped nr mrowMany mroundOf mroundFrom mouts nm mfromHour mtoHour ns mfrom mto msort misFault mdeep mcoded mlines nl nc nF np ntr nb mbestCost nso nsi nit nsh nsf nss nrc mtraced mdealer mnumber mwhose msize misParted fnw fnsh fnsf := by
  refine MP.start (by decide +kernel) (Nat.le_of_ble_eq_true rfl) ?_
  intro p e s m below meth c ls hC hK hP hD hl
  refine absQ (fun Q0 hQ0 => ?_)
  have hl : lv_has ls 4 [(0, .ref h0), (1, .int (nI jt))] := hl
  refine Kan8 hC (fun hx hb hr hml hB hown hlocks hnm => ?_)
  obtain ⟨kq, hkq, ekq⟩ := NI.nat hN (i := 5) (B := 12) (by decide +kernel) (by decide)
  obtain ⟨k8, hk8, ek8⟩ := NI.nat hN (i := 8) (B := 16) (by decide +kernel) (by decide)
  obtain ⟨k9, hk9, ek9⟩ := NI.nat hN (i := 9) (B := 12) (by decide +kernel) (by decide)
  refine lv_aload_n hx hb gX12_kindOn_0.1 rfl (lv_at0 hl) ?_
  refine gf_X12_75 hC rfl hK hP 0 rfl rfl gX12_kindOn_0.2.1 ?_
  refine lv_iload_n hx hb gX12_kindOn_0.2.2.1 rfl (lv_at1 hl) ?_
  refine aldN hC hK hP 3 rfl (k := jt) (by omega) (Nat.le_of_ble_eq_true rfl) (v := fnsf jt) rfl gX12_kindOn_0.2.2.2.1 ?_
  refine lv_topi (fun x5419 ex5419 => ?_)
  refine lv_istore_n (lv' := [(2, .int x5419), (0, .ref h0), (1, .int (nI jt))]) hx hb gX12_kindOn_0.2.2.2.2.1 rfl hl (by decide) rfl (fun ls hl => ?_)
  refine lv_aload_n hx hb gX12_kindOn_0.2.2.2.2.2.1 rfl (lv_at1 hl) ?_
  refine gf_X12_72 hC rfl hK hP 0 rfl rfl gX12_kindOn_0.2.2.2.2.2.2.1 ?_
  refine lv_iload_n hx hb gX12_kindOn_0.2.2.2.2.2.2.2.1 rfl (lv_at2 hl) ?_
  refine aldN hC hK hP 2 rfl (k := jt) (by omega) (Nat.le_of_ble_eq_true rfl) (v := fnsh jt) rfl gX12_kindOn_0.2.2.2.2.2.2.2.2.1 ?_
  refine lv_topi (fun x5420 ex5420 => ?_)
  by_cases c_13_5421 : x5420 = 1
  · refine lv_tableIn (tgt := 40) hx hb gX12_kindOn_0.2.2.2.2.2.2.2.2.2 (by rw [c_13_5421]; decide) (by rw [c_13_5421]; decide) (by rw [c_13_5421]; rfl) (by decide) ?_
    refine lv_aload_n hx hb gX12_kindOn_1.1 rfl (lv_at1 hl) ?_
    refine lv_iload_n hx hb gX12_kindOn_1.2.1 rfl (lv_at0 hl) ?_
    refine lv_iconst (v := 5) hx hb gX12_kindOn_1.2.2.1 (by decide) ?_
    refine pV hC hK hl hP hD (m_is l G kq h0 x5419 5 nw nk mhasKept nt mtaped nr mrowMany mroundOf mroundFrom mouts nm mfromHour mtoHour ns mfrom mto msort misFault mdeep mcoded mlines nl nc nF np ntr nb mbestCost nso nsi nit nsh nsf nss nrc mtraced mdealer mnumber mwhose msize misParted fnw (by omega) (ekq) (by omega)) si_X12_120 [0, 1] sm_0_1 fm_0_1 nd_0_1 rfl rfl rfl rfl rfl (Nat.le_of_ble_eq_true rfl) rm_3_2_3 ⟨by first | exact Nat.le_of_ble_eq_true rfl | exact Nat.zero_le _, by first | exact Nat.le_of_ble_eq_true rfl | exact Nat.zero_le _⟩ gX12_kindOn_1.2.2.2.1 (Kors (Keqa fun a5423 => ?_) (Keqa fun a5423 => ?_))
    · refine lv_if_eq (tgt := 73) hx hb gX12_kindOn_1.2.2.2.2.1 (by decide) (fun c9 => absurd c9 (by decide)) (fun _ => ?_)
      refine lv_aload_n hx hb gX12_kindOn_1.2.2.2.2.2.1 rfl (lv_at1 hl) ?_
      refine lv_iload_n hx hb gX12_kindOn_1.2.2.2.2.2.2.1 rfl (lv_at0 hl) ?_
      obtain ⟨jn5424, hjn5424, ek5424⟩ := Hs_nat (by omega) a5423
      refine eqi (x1 := nI jn5424) ek5424 ?_
      refine lv_iconst (v := 1) hx hb gX12_kindOn_1.2.2.2.2.2.2.2.1 (by decide) ?_
      refine pV hC hK hl hP hD (m_paper l G h0 jn5424 1 nw nk mhasKept nt mtaped nr mrowMany mroundOf mroundFrom mouts nm mfromHour mtoHour ns mfrom mto msort misFault mdeep mcoded mlines nl nc nF np ntr nb mbestCost nso nsi nit nsh nsf nss nrc mtraced mdealer mnumber mwhose msize misParted fnw (by omega) (by omega)) si_X12_88 [0, 1] sm_0_1 fm_0_1 nd_0_1 rfl rfl rfl rfl rfl (Nat.le_of_ble_eq_true rfl) rm_3_1_3 ⟨by first | exact Nat.le_of_ble_eq_true rfl | exact Nat.zero_le _, by first | exact Nat.le_of_ble_eq_true rfl | exact Nat.zero_le _⟩ gX12_kindOn_1.2.2.2.2.2.2.2.2.1 (Keqr ?_)
      refine lv_iconst (v := 1) hx hb gX12_kindOn_1.2.2.2.2.2.2.2.2.2 (by decide) ?_
      refine lv_aload_n hx hb gX12_kindOn_2.1 rfl (lv_at1 hl) ?_
      refine lv_iload_n hx hb gX12_kindOn_2.2.1 rfl (lv_at0 hl) ?_
      obtain ⟨jn5427, hjn5427, ek5427⟩ := Hs_nat (by omega) a5423
      refine eqi (x1 := nI jn5427) ek5427 ?_
      refine lv_iconst (v := 0) hx hb gX12_kindOn_2.2.2.1 (by decide) ?_
      refine pV hC hK hl hP hD (m_paper l G h0 jn5427 0 nw nk mhasKept nt mtaped nr mrowMany mroundOf mroundFrom mouts nm mfromHour mtoHour ns mfrom mto msort misFault mdeep mcoded mlines nl nc nF np ntr nb mbestCost nso nsi nit nsh nsf nss nrc mtraced mdealer mnumber mwhose msize misParted fnw (by omega) (by omega)) si_X12_88 [0, 1] sm_0_1 fm_0_1 nd_0_1 rfl rfl rfl rfl rfl (Nat.le_of_ble_eq_true rfl) rm_3_1_3 ⟨by first | exact Nat.le_of_ble_eq_true rfl | exact Nat.zero_le _, by first | exact Nat.le_of_ble_eq_true rfl | exact Nat.zero_le _⟩ gX12_kindOn_2.2.2.2.1 (Keqr ?_)
      refine lv_ishl hx hb gX12_kindOn_2.2.2.2.2.1 ?_
      refine lv_iconst (v := (-1)) hx hb gX12_kindOn_2.2.2.2.2.2.1 (by decide) ?_
      refine lv_ixor hx hb gX12_kindOn_2.2.2.2.2.2.2.1 ?_
      refine lv_iand hx hb gX12_kindOn_2.2.2.2.2.2.2.2.1 ?_
      refine lv_if_eq (tgt := 73) hx hb gX12_kindOn_2.2.2.2.2.2.2.2.2.1 (by decide) (fun c_66_5430 => ?_) (fun c_66_5430 => ?_)
      · refine lv_iconst (v := 0) hx hb gX12_kindOn_3.2.1 (by decide) ?_
        refine lv_istore_n (lv' := [(3, .int 0), (2, .int x5419), (0, .ref h0), (1, .int (nI jt))]) hx hb gX12_kindOn_3.2.2.1 rfl hl (by decide) rfl (fun ls hl => ?_)
        refine lv_aload_n hx hb gX12_kindOn_3.2.2.2.1 rfl (lv_at2 hl) ?_
        refine lv_iload_n hx hb gX12_kindOn_3.2.2.2.2.1 rfl (lv_at1 hl) ?_
        refine lv_iconst (v := 5) hx hb gX12_kindOn_3.2.2.2.2.2.1 (by decide) ?_
        refine pV hC hK hl hP hD (m_is l G kq h0 x5419 5 nw nk mhasKept nt mtaped nr mrowMany mroundOf mroundFrom mouts nm mfromHour mtoHour ns mfrom mto msort misFault mdeep mcoded mlines nl nc nF np ntr nb mbestCost nso nsi nit nsh nsf nss nrc mtraced mdealer mnumber mwhose msize misParted fnw (by omega) (ekq) (by omega)) si_X12_120 [0, 1] sm_0_1 fm_0_1 nd_0_1 rfl rfl rfl rfl rfl (Nat.le_of_ble_eq_true rfl) rm_3_2_3 ⟨by first | exact Nat.le_of_ble_eq_true rfl | exact Nat.zero_le _, by first | exact Nat.le_of_ble_eq_true rfl | exact Nat.zero_le _⟩ gX12_kindOn_3.2.2.2.2.2.2.1 (Kors (Keqa fun a5432 => ?_) (Keqa fun a5432 => ?_))
        · refine lv_if_ne (tgt := 88) hx hb gX12_kindOn_3.2.2.2.2.2.2.2.1 (by decide) (fun _ => ?_) (fun c9 => absurd c9 (by decide))
          refine lv_iload_n hx hb gX12_kindOn_4.1 rfl (lv_at0 hl) ?_
          refine lv_if_ne (tgt := 96) hx hb gX12_kindOn_4.2.1 (by decide) (fun c9 => absurd (by decide) c9) (fun _ => ?_)
          refine lv_iconst (v := 2) hx hb gX12_kindOn_4.2.2.1 (by decide) ?_
          refine lv_goto (tgt := 110) hx hb gX12_kindOn_4.2.2.2.1 (by decide) ?_
          refine toQ hQ0 ?_
          exact RP (v := 2) hC (Or.inr (Or.inr (Or.inl (⟨rfl, KO1.mk (kk := kq) (by omega) (by omega) ex5420 ex5419 c_13_5421 a5432⟩)))) rfl gX12_kindOn_5.2.2.1
        · exact absurd a5423 a5432
      · refine lv_iconst (v := 1) hx hb gX12_kindOn_2.2.2.2.2.2.2.2.2.2 (by decide) ?_
        refine lv_goto (tgt := 74) hx hb gX12_kindOn_3.1 (by decide) ?_
        refine lv_istore_n (lv' := [(3, .int 1), (2, .int x5419), (0, .ref h0), (1, .int (nI jt))]) hx hb gX12_kindOn_3.2.2.1 rfl hl (by decide) rfl (fun ls hl => ?_)
        refine lv_aload_n hx hb gX12_kindOn_3.2.2.2.1 rfl (lv_at2 hl) ?_
        refine lv_iload_n hx hb gX12_kindOn_3.2.2.2.2.1 rfl (lv_at1 hl) ?_
        refine lv_iconst (v := 5) hx hb gX12_kindOn_3.2.2.2.2.2.1 (by decide) ?_
        refine pV hC hK hl hP hD (m_is l G kq h0 x5419 5 nw nk mhasKept nt mtaped nr mrowMany mroundOf mroundFrom mouts nm mfromHour mtoHour ns mfrom mto msort misFault mdeep mcoded mlines nl nc nF np ntr nb mbestCost nso nsi nit nsh nsf nss nrc mtraced mdealer mnumber mwhose msize misParted fnw (by omega) (ekq) (by omega)) si_X12_120 [0, 1] sm_0_1 fm_0_1 nd_0_1 rfl rfl rfl rfl rfl (Nat.le_of_ble_eq_true rfl) rm_3_2_3 ⟨by first | exact Nat.le_of_ble_eq_true rfl | exact Nat.zero_le _, by first | exact Nat.le_of_ble_eq_true rfl | exact Nat.zero_le _⟩ gX12_kindOn_3.2.2.2.2.2.2.1 (Kors (Keqa fun a5434 => ?_) (Keqa fun a5434 => ?_))
        · refine lv_if_ne (tgt := 88) hx hb gX12_kindOn_3.2.2.2.2.2.2.2.1 (by decide) (fun _ => ?_) (fun c9 => absurd c9 (by decide))
          refine lv_iload_n hx hb gX12_kindOn_4.1 rfl (lv_at0 hl) ?_
          refine lv_if_ne (tgt := 96) hx hb gX12_kindOn_4.2.1 (by decide) (fun _ => ?_) (fun c9 => absurd c9 (by decide))
          refine lv_aload_n hx hb gX12_kindOn_4.2.2.2.2.1 rfl (lv_at2 hl) ?_
          refine lv_iload_n hx hb gX12_kindOn_4.2.2.2.2.2.1 rfl (lv_at1 hl) ?_
          obtain ⟨jn5435, hjn5435, ek5435⟩ := Hs_nat (by omega) a5434
          refine eqi (x1 := nI jn5435) ek5435 ?_
          refine lv_iconst (v := 3) hx hb gX12_kindOn_4.2.2.2.2.2.2.1 (by decide) ?_
          refine pV hC hK hl hP hD (m_paper l G h0 jn5435 3 nw nk mhasKept nt mtaped nr mrowMany mroundOf mroundFrom mouts nm mfromHour mtoHour ns mfrom mto msort misFault mdeep mcoded mlines nl nc nF np ntr nb mbestCost nso nsi nit nsh nsf nss nrc mtraced mdealer mnumber mwhose msize misParted fnw (by omega) (by omega)) si_X12_88 [0, 1] sm_0_1 fm_0_1 nd_0_1 rfl rfl rfl rfl rfl (Nat.le_of_ble_eq_true rfl) rm_3_1_3 ⟨by first | exact Nat.le_of_ble_eq_true rfl | exact Nat.zero_le _, by first | exact Nat.le_of_ble_eq_true rfl | exact Nat.zero_le _⟩ gX12_kindOn_4.2.2.2.2.2.2.2.1 (Keqr ?_)
          refine lv_if_le (tgt := 109) hx hb gX12_kindOn_4.2.2.2.2.2.2.2.2.1 (by decide) (fun c_102_5438 => ?_) (fun c_102_5438 => ?_)
          · refine lv_iconst (v := 1) hx hb gX12_kindOn_5.2.1 (by decide) ?_
            refine toQ hQ0 ?_
            exact RP (v := 1) hC (Or.inr (Or.inl (⟨rfl, KO1.mk (kk := kq) (by omega) (by omega) ex5420 ex5419 c_13_5421 a5434⟩))) rfl gX12_kindOn_5.2.2.1
          · refine lv_iconst (v := 3) hx hb gX12_kindOn_4.2.2.2.2.2.2.2.2.2 (by decide) ?_
            refine lv_goto (tgt := 110) hx hb gX12_kindOn_5.1 (by decide) ?_
            refine toQ hQ0 ?_
            exact RP (v := 3) hC (Or.inr (Or.inr (Or.inr (Or.inl (⟨rfl, KO1.mk (kk := kq) (by omega) (by omega) ex5420 ex5419 c_13_5421 a5434⟩))))) rfl gX12_kindOn_5.2.2.1
        · exact absurd a5423 a5434
    · refine lv_if_eq (tgt := 73) hx hb gX12_kindOn_1.2.2.2.2.1 (by decide) (fun _ => ?_) (fun c9 => absurd (by decide) c9)
      refine lv_iconst (v := 0) hx hb gX12_kindOn_3.2.1 (by decide) ?_
      refine lv_istore_n (lv' := [(3, .int 0), (2, .int x5419), (0, .ref h0), (1, .int (nI jt))]) hx hb gX12_kindOn_3.2.2.1 rfl hl (by decide) rfl (fun ls hl => ?_)
      refine lv_aload_n hx hb gX12_kindOn_3.2.2.2.1 rfl (lv_at2 hl) ?_
      refine lv_iload_n hx hb gX12_kindOn_3.2.2.2.2.1 rfl (lv_at1 hl) ?_
      refine lv_iconst (v := 5) hx hb gX12_kindOn_3.2.2.2.2.2.1 (by decide) ?_
      refine pV hC hK hl hP hD (m_is l G kq h0 x5419 5 nw nk mhasKept nt mtaped nr mrowMany mroundOf mroundFrom mouts nm mfromHour mtoHour ns mfrom mto msort misFault mdeep mcoded mlines nl nc nF np ntr nb mbestCost nso nsi nit nsh nsf nss nrc mtraced mdealer mnumber mwhose msize misParted fnw (by omega) (ekq) (by omega)) si_X12_120 [0, 1] sm_0_1 fm_0_1 nd_0_1 rfl rfl rfl rfl rfl (Nat.le_of_ble_eq_true rfl) rm_3_2_3 ⟨by first | exact Nat.le_of_ble_eq_true rfl | exact Nat.zero_le _, by first | exact Nat.le_of_ble_eq_true rfl | exact Nat.zero_le _⟩ gX12_kindOn_3.2.2.2.2.2.2.1 (Kors (Keqa fun a5440 => ?_) (Keqa fun a5440 => ?_))
      · exact absurd a5440 a5423
      · refine lv_if_ne (tgt := 88) hx hb gX12_kindOn_3.2.2.2.2.2.2.2.1 (by decide) (fun c9 => absurd (by decide) c9) (fun _ => ?_)
        refine lv_iconst (v := (-1)) hx hb gX12_kindOn_3.2.2.2.2.2.2.2.2.1 (by decide) ?_
        refine lv_goto (tgt := 110) hx hb gX12_kindOn_3.2.2.2.2.2.2.2.2.2 (by decide) ?_
        refine toQ hQ0 ?_
        exact RP (v := (-1)) hC (Or.inl (rfl)) rfl gX12_kindOn_5.2.2.1
  by_cases c_13_5441 : x5420 = 2
  · refine lv_tableIn (tgt := 111) hx hb gX12_kindOn_0.2.2.2.2.2.2.2.2.2 (by rw [c_13_5441]; decide) (by rw [c_13_5441]; decide) (by rw [c_13_5441]; rfl) (by decide) ?_
    refine lv_aload_n hx hb gX12_kindOn_5.2.2.2.1 rfl (lv_at1 hl) ?_
    refine lv_iload_n hx hb gX12_kindOn_5.2.2.2.2.1 rfl (lv_at0 hl) ?_
    refine lv_bipush (v := 8) hx hb gX12_kindOn_5.2.2.2.2.2.1 (by decide) ?_
    refine pV hC hK hl hP hD (m_is l G k8 h0 x5419 8 nw nk mhasKept nt mtaped nr mrowMany mroundOf mroundFrom mouts nm mfromHour mtoHour ns mfrom mto msort misFault mdeep mcoded mlines nl nc nF np ntr nb mbestCost nso nsi nit nsh nsf nss nrc mtraced mdealer mnumber mwhose msize misParted fnw (by omega) (ek8) (by omega)) si_X12_120 [0, 1] sm_0_1 fm_0_1 nd_0_1 rfl rfl rfl rfl rfl (Nat.le_of_ble_eq_true rfl) rm_3_2_3 ⟨by first | exact Nat.le_of_ble_eq_true rfl | exact Nat.zero_le _, by first | exact Nat.le_of_ble_eq_true rfl | exact Nat.zero_le _⟩ gX12_kindOn_5.2.2.2.2.2.2.1 (Kors (Keqa fun a5443 => ?_) (Keqa fun a5443 => ?_))
    · refine lv_if_ne (tgt := 125) hx hb gX12_kindOn_5.2.2.2.2.2.2.2.1 (by decide) (fun _ => ?_) (fun c9 => absurd c9 (by decide))
      refine lv_aload_n hx hb gX12_kindOn_6.1 rfl (lv_at1 hl) ?_
      refine lv_iload_n hx hb gX12_kindOn_6.2.1 rfl (lv_at0 hl) ?_
      obtain ⟨jn5444, hjn5444, ek5444⟩ := Hs_nat (by omega) a5443
      refine eqi (x1 := nI jn5444) ek5444 ?_
      refine lv_bipush (v := 6) hx hb gX12_kindOn_6.2.2.1 (by decide) ?_
      refine pV hC hK hl hP hD (m_saying l G h0 jn5444 6 nw nk mhasKept nt mtaped nr mrowMany mroundOf mroundFrom mouts nm mfromHour mtoHour ns mfrom mto msort misFault mdeep mcoded mlines nl nc nF np ntr nb mbestCost nso nsi nit nsh nsf nss nrc mtraced mdealer mnumber mwhose msize misParted fnw (by omega) (by omega)) si_X12_114 [0, 1] sm_0_1 fm_0_1 nd_0_1 rfl rfl rfl rfl rfl (Nat.le_of_ble_eq_true rfl) rm_3_1_3 ⟨by first | exact Nat.le_of_ble_eq_true rfl | exact Nat.zero_le _, by first | exact Nat.le_of_ble_eq_true rfl | exact Nat.zero_le _⟩ gX12_kindOn_6.2.2.2.1 (Keqr ?_)
      refine lv_if_ge (tgt := 139) hx hb gX12_kindOn_6.2.2.2.2.1 (by decide) (fun c_132_5447 => ?_) (fun c_132_5447 => ?_)
      · refine lv_iconst (v := 4) hx hb gX12_kindOn_6.2.2.2.2.2.2.2.1 (by decide) ?_
        refine toQ hQ0 ?_
        exact RP (v := 4) hC (Or.inr (Or.inr (Or.inr (Or.inr (Or.inl (⟨rfl, KO1.mk (kk := k8) (by omega) (by omega) ex5420 ex5419 c_13_5441 a5443⟩)))))) rfl gX12_kindOn_6.2.2.2.2.2.2.2.2.1
      · refine lv_iconst (v := 5) hx hb gX12_kindOn_6.2.2.2.2.2.1 (by decide) ?_
        refine lv_goto (tgt := 140) hx hb gX12_kindOn_6.2.2.2.2.2.2.1 (by decide) ?_
        refine toQ hQ0 ?_
        exact RP (v := 5) hC (Or.inr (Or.inr (Or.inr (Or.inr (Or.inr (Or.inl (⟨rfl, KO1.mk (kk := k8) (by omega) (by omega) ex5420 ex5419 c_13_5441 a5443⟩))))))) rfl gX12_kindOn_6.2.2.2.2.2.2.2.2.1
    · refine lv_if_ne (tgt := 125) hx hb gX12_kindOn_5.2.2.2.2.2.2.2.1 (by decide) (fun c9 => absurd (by decide) c9) (fun _ => ?_)
      refine lv_iconst (v := (-1)) hx hb gX12_kindOn_5.2.2.2.2.2.2.2.2.1 (by decide) ?_
      refine lv_goto (tgt := 140) hx hb gX12_kindOn_5.2.2.2.2.2.2.2.2.2 (by decide) ?_
      refine toQ hQ0 ?_
      exact RP (v := (-1)) hC (Or.inl (rfl)) rfl gX12_kindOn_6.2.2.2.2.2.2.2.2.1
  by_cases c_13_5448 : x5420 = 3
  · refine lv_tableIn (tgt := 141) hx hb gX12_kindOn_0.2.2.2.2.2.2.2.2.2 (by rw [c_13_5448]; decide) (by rw [c_13_5448]; decide) (by rw [c_13_5448]; rfl) (by decide) ?_
    refine lv_aload_n hx hb gX12_kindOn_6.2.2.2.2.2.2.2.2.2 rfl (lv_at1 hl) ?_
    refine lv_iload_n hx hb gX12_kindOn_7.1 rfl (lv_at0 hl) ?_
    refine lv_bipush (v := 9) hx hb gX12_kindOn_7.2.1 (by decide) ?_
    refine pV hC hK hl hP hD (m_is l G k9 h0 x5419 9 nw nk mhasKept nt mtaped nr mrowMany mroundOf mroundFrom mouts nm mfromHour mtoHour ns mfrom mto msort misFault mdeep mcoded mlines nl nc nF np ntr nb mbestCost nso nsi nit nsh nsf nss nrc mtraced mdealer mnumber mwhose msize misParted fnw (by omega) (ek9) (by omega)) si_X12_120 [0, 1] sm_0_1 fm_0_1 nd_0_1 rfl rfl rfl rfl rfl (Nat.le_of_ble_eq_true rfl) rm_3_2_3 ⟨by first | exact Nat.le_of_ble_eq_true rfl | exact Nat.zero_le _, by first | exact Nat.le_of_ble_eq_true rfl | exact Nat.zero_le _⟩ gX12_kindOn_7.2.2.1 (Kors (Keqa fun a5450 => ?_) (Keqa fun a5450 => ?_))
    · refine lv_if_eq (tgt := 156) hx hb gX12_kindOn_7.2.2.2.1 (by decide) (fun c9 => absurd c9 (by decide)) (fun _ => ?_)
      refine lv_bipush (v := 6) hx hb gX12_kindOn_7.2.2.2.2.1 (by decide) ?_
      refine lv_goto (tgt := 157) hx hb gX12_kindOn_7.2.2.2.2.2.1 (by decide) ?_
      refine toQ hQ0 ?_
      exact RP (v := 6) hC (Or.inr (Or.inr (Or.inr (Or.inr (Or.inr (Or.inr (⟨rfl, KO1.mk (kk := k9) (by omega) (by omega) ex5420 ex5419 c_13_5448 a5450⟩))))))) rfl gX12_kindOn_7.2.2.2.2.2.2.2.1
    · refine lv_if_eq (tgt := 156) hx hb gX12_kindOn_7.2.2.2.1 (by decide) (fun _ => ?_) (fun c9 => absurd (by decide) c9)
      refine lv_iconst (v := (-1)) hx hb gX12_kindOn_7.2.2.2.2.2.2.1 (by decide) ?_
      refine toQ hQ0 ?_
      exact RP (v := (-1)) hC (Or.inl (rfl)) rfl gX12_kindOn_7.2.2.2.2.2.2.2.1
  refine lv_tableOut (tgt := 158) hx hb gX12_kindOn_0.2.2.2.2.2.2.2.2.2 (by have q9 := sw_1_3 (x := x5420); simp only [c_13_5421, c_13_5441, c_13_5448, not_false_eq_true, true_implies] at q9; exact q9) (by decide) ?_
  refine lv_iconst (v := (-1)) hx hb gX12_kindOn_7.2.2.2.2.2.2.2.2.1 (by decide) ?_
  refine toQ hQ0 ?_
  exact RP (v := (-1)) hC (Or.inl (rfl)) rfl gX12_kindOn_7.2.2.2.2.2.2.2.2.2
def K_m_above0 (l : Launch) (G : GG) : Prop := MP l G yX12_above cX12_above 1 (some .int) 1 [.int 0] [] (fun r : Int32 => r = (-1))
set_option maxHeartbeats 4000000 in
set_option maxRecDepth 100000 in
theorem m_above0 (l : Launch) (G : GG) : K_m_above0 l G := by
  refine MP.start (by decide +kernel) (Nat.le_of_ble_eq_true rfl) ?_
  intro p e s m below meth c ls hC hK hP hD hl
  refine absQ (fun Q0 hQ0 => ?_)
  have hl : lv_has ls 1 [(0, .int 0)] := hl
  refine Kan8 hC (fun hx hb hr hml hB hown hlocks hnm => ?_)
  refine lv_iload_n hx hb gX12_above_0.1 rfl (lv_at0 hl) ?_
  refine lv_iconst (v := 3) hx hb gX12_above_0.2.1 (by decide) ?_
  refine lv_icmp_ne (tgt := 9) hx hb gX12_above_0.2.2.1 (by decide) (fun _ => ?_) (fun c9 => absurd c9 (by decide))
  refine lv_iload_n hx hb gX12_above_0.2.2.2.2.2.1 rfl (lv_at0 hl) ?_
  refine lv_iconst (v := 5) hx hb gX12_above_0.2.2.2.2.2.2.1 (by decide) ?_
  refine lv_icmp_ne (tgt := 18) hx hb gX12_above_0.2.2.2.2.2.2.2.1 (by decide) (fun _ => ?_) (fun c9 => absurd c9 (by decide))
  refine lv_iload_n hx hb gX12_above_1.1 rfl (lv_at0 hl) ?_
  refine lv_if_ne (tgt := 26) hx hb gX12_above_1.2.1 (by decide) (fun c9 => absurd (by decide) c9) (fun _ => ?_)
  refine lv_iconst (v := (-1)) hx hb gX12_above_1.2.2.1 (by decide) ?_
  refine lv_goto (tgt := 27) hx hb gX12_above_1.2.2.2.1 (by decide) ?_
  refine toQ hQ0 ?_
  exact RP (v := (-1)) hC (rfl) rfl gX12_above_1.2.2.2.2.2
def K_m_above1 (l : Launch) (G : GG) : Prop := MP l G yX12_above cX12_above 1 (some .int) 1 [.int 1] [] (fun r : Int32 => r = 0)
set_option maxHeartbeats 4000000 in
set_option maxRecDepth 100000 in
theorem m_above1 (l : Launch) (G : GG) : K_m_above1 l G := by
  refine MP.start (by decide +kernel) (Nat.le_of_ble_eq_true rfl) ?_
  intro p e s m below meth c ls hC hK hP hD hl
  refine absQ (fun Q0 hQ0 => ?_)
  have hl : lv_has ls 1 [(0, .int 1)] := hl
  refine Kan8 hC (fun hx hb hr hml hB hown hlocks hnm => ?_)
  refine lv_iload_n hx hb gX12_above_0.1 rfl (lv_at0 hl) ?_
  refine lv_iconst (v := 3) hx hb gX12_above_0.2.1 (by decide) ?_
  refine lv_icmp_ne (tgt := 9) hx hb gX12_above_0.2.2.1 (by decide) (fun _ => ?_) (fun c9 => absurd c9 (by decide))
  refine lv_iload_n hx hb gX12_above_0.2.2.2.2.2.1 rfl (lv_at0 hl) ?_
  refine lv_iconst (v := 5) hx hb gX12_above_0.2.2.2.2.2.2.1 (by decide) ?_
  refine lv_icmp_ne (tgt := 18) hx hb gX12_above_0.2.2.2.2.2.2.2.1 (by decide) (fun _ => ?_) (fun c9 => absurd c9 (by decide))
  refine lv_iload_n hx hb gX12_above_1.1 rfl (lv_at0 hl) ?_
  refine lv_if_ne (tgt := 26) hx hb gX12_above_1.2.1 (by decide) (fun _ => ?_) (fun c9 => absurd c9 (by decide))
  refine lv_iconst (v := 0) hx hb gX12_above_1.2.2.2.2.1 (by decide) ?_
  refine toQ hQ0 ?_
  exact RP (v := 0) hC (rfl) rfl gX12_above_1.2.2.2.2.2
def K_m_above2 (l : Launch) (G : GG) : Prop := MP l G yX12_above cX12_above 1 (some .int) 1 [.int 2] [] (fun r : Int32 => r = 0)
set_option maxHeartbeats 4000000 in
set_option maxRecDepth 100000 in
theorem m_above2 (l : Launch) (G : GG) : K_m_above2 l G := by
  refine MP.start (by decide +kernel) (Nat.le_of_ble_eq_true rfl) ?_
  intro p e s m below meth c ls hC hK hP hD hl
  refine absQ (fun Q0 hQ0 => ?_)
  have hl : lv_has ls 1 [(0, .int 2)] := hl
  refine Kan8 hC (fun hx hb hr hml hB hown hlocks hnm => ?_)
  refine lv_iload_n hx hb gX12_above_0.1 rfl (lv_at0 hl) ?_
  refine lv_iconst (v := 3) hx hb gX12_above_0.2.1 (by decide) ?_
  refine lv_icmp_ne (tgt := 9) hx hb gX12_above_0.2.2.1 (by decide) (fun _ => ?_) (fun c9 => absurd c9 (by decide))
  refine lv_iload_n hx hb gX12_above_0.2.2.2.2.2.1 rfl (lv_at0 hl) ?_
  refine lv_iconst (v := 5) hx hb gX12_above_0.2.2.2.2.2.2.1 (by decide) ?_
  refine lv_icmp_ne (tgt := 18) hx hb gX12_above_0.2.2.2.2.2.2.2.1 (by decide) (fun _ => ?_) (fun c9 => absurd c9 (by decide))
  refine lv_iload_n hx hb gX12_above_1.1 rfl (lv_at0 hl) ?_
  refine lv_if_ne (tgt := 26) hx hb gX12_above_1.2.1 (by decide) (fun _ => ?_) (fun c9 => absurd c9 (by decide))
  refine lv_iconst (v := 0) hx hb gX12_above_1.2.2.2.2.1 (by decide) ?_
  refine toQ hQ0 ?_
  exact RP (v := 0) hC (rfl) rfl gX12_above_1.2.2.2.2.2
def K_m_above3 (l : Launch) (G : GG) : Prop := MP l G yX12_above cX12_above 1 (some .int) 1 [.int 3] [] (fun r : Int32 => r = 1)
set_option maxHeartbeats 4000000 in
set_option maxRecDepth 100000 in
theorem m_above3 (l : Launch) (G : GG) : K_m_above3 l G := by
  refine MP.start (by decide +kernel) (Nat.le_of_ble_eq_true rfl) ?_
  intro p e s m below meth c ls hC hK hP hD hl
  refine absQ (fun Q0 hQ0 => ?_)
  have hl : lv_has ls 1 [(0, .int 3)] := hl
  refine Kan8 hC (fun hx hb hr hml hB hown hlocks hnm => ?_)
  refine lv_iload_n hx hb gX12_above_0.1 rfl (lv_at0 hl) ?_
  refine lv_iconst (v := 3) hx hb gX12_above_0.2.1 (by decide) ?_
  refine lv_icmp_ne (tgt := 9) hx hb gX12_above_0.2.2.1 (by decide) (fun c9 => absurd (by decide) c9) (fun _ => ?_)
  refine lv_iconst (v := 1) hx hb gX12_above_0.2.2.2.1 (by decide) ?_
  refine lv_goto (tgt := 27) hx hb gX12_above_0.2.2.2.2.1 (by decide) ?_
  refine toQ hQ0 ?_
  exact RP (v := 1) hC (rfl) rfl gX12_above_1.2.2.2.2.2
def K_m_above4 (l : Launch) (G : GG) : Prop := MP l G yX12_above cX12_above 1 (some .int) 1 [.int 4] [] (fun r : Int32 => r = 0)
set_option maxHeartbeats 4000000 in
set_option maxRecDepth 100000 in
theorem m_above4 (l : Launch) (G : GG) : K_m_above4 l G := by
  refine MP.start (by decide +kernel) (Nat.le_of_ble_eq_true rfl) ?_
  intro p e s m below meth c ls hC hK hP hD hl
  refine absQ (fun Q0 hQ0 => ?_)
  have hl : lv_has ls 1 [(0, .int 4)] := hl
  refine Kan8 hC (fun hx hb hr hml hB hown hlocks hnm => ?_)
  refine lv_iload_n hx hb gX12_above_0.1 rfl (lv_at0 hl) ?_
  refine lv_iconst (v := 3) hx hb gX12_above_0.2.1 (by decide) ?_
  refine lv_icmp_ne (tgt := 9) hx hb gX12_above_0.2.2.1 (by decide) (fun _ => ?_) (fun c9 => absurd c9 (by decide))
  refine lv_iload_n hx hb gX12_above_0.2.2.2.2.2.1 rfl (lv_at0 hl) ?_
  refine lv_iconst (v := 5) hx hb gX12_above_0.2.2.2.2.2.2.1 (by decide) ?_
  refine lv_icmp_ne (tgt := 18) hx hb gX12_above_0.2.2.2.2.2.2.2.1 (by decide) (fun _ => ?_) (fun c9 => absurd c9 (by decide))
  refine lv_iload_n hx hb gX12_above_1.1 rfl (lv_at0 hl) ?_
  refine lv_if_ne (tgt := 26) hx hb gX12_above_1.2.1 (by decide) (fun _ => ?_) (fun c9 => absurd c9 (by decide))
  refine lv_iconst (v := 0) hx hb gX12_above_1.2.2.2.2.1 (by decide) ?_
  refine toQ hQ0 ?_
  exact RP (v := 0) hC (rfl) rfl gX12_above_1.2.2.2.2.2
def K_m_above5 (l : Launch) (G : GG) : Prop := MP l G yX12_above cX12_above 1 (some .int) 1 [.int 5] [] (fun r : Int32 => r = 4)
set_option maxHeartbeats 4000000 in
set_option maxRecDepth 100000 in
theorem m_above5 (l : Launch) (G : GG) : K_m_above5 l G := by
  refine MP.start (by decide +kernel) (Nat.le_of_ble_eq_true rfl) ?_
  intro p e s m below meth c ls hC hK hP hD hl
  refine absQ (fun Q0 hQ0 => ?_)
  have hl : lv_has ls 1 [(0, .int 5)] := hl
  refine Kan8 hC (fun hx hb hr hml hB hown hlocks hnm => ?_)
  refine lv_iload_n hx hb gX12_above_0.1 rfl (lv_at0 hl) ?_
  refine lv_iconst (v := 3) hx hb gX12_above_0.2.1 (by decide) ?_
  refine lv_icmp_ne (tgt := 9) hx hb gX12_above_0.2.2.1 (by decide) (fun _ => ?_) (fun c9 => absurd c9 (by decide))
  refine lv_iload_n hx hb gX12_above_0.2.2.2.2.2.1 rfl (lv_at0 hl) ?_
  refine lv_iconst (v := 5) hx hb gX12_above_0.2.2.2.2.2.2.1 (by decide) ?_
  refine lv_icmp_ne (tgt := 18) hx hb gX12_above_0.2.2.2.2.2.2.2.1 (by decide) (fun c9 => absurd (by decide) c9) (fun _ => ?_)
  refine lv_iconst (v := 4) hx hb gX12_above_0.2.2.2.2.2.2.2.2.1 (by decide) ?_
  refine lv_goto (tgt := 27) hx hb gX12_above_0.2.2.2.2.2.2.2.2.2 (by decide) ?_
  refine toQ hQ0 ?_
  exact RP (v := 4) hC (rfl) rfl gX12_above_1.2.2.2.2.2
def K_m_above6 (l : Launch) (G : GG) : Prop := MP l G yX12_above cX12_above 1 (some .int) 1 [.int 6] [] (fun r : Int32 => r = 0)
set_option maxHeartbeats 4000000 in
set_option maxRecDepth 100000 in
theorem m_above6 (l : Launch) (G : GG) : K_m_above6 l G := by
  refine MP.start (by decide +kernel) (Nat.le_of_ble_eq_true rfl) ?_
  intro p e s m below meth c ls hC hK hP hD hl
  refine absQ (fun Q0 hQ0 => ?_)
  have hl : lv_has ls 1 [(0, .int 6)] := hl
  refine Kan8 hC (fun hx hb hr hml hB hown hlocks hnm => ?_)
  refine lv_iload_n hx hb gX12_above_0.1 rfl (lv_at0 hl) ?_
  refine lv_iconst (v := 3) hx hb gX12_above_0.2.1 (by decide) ?_
  refine lv_icmp_ne (tgt := 9) hx hb gX12_above_0.2.2.1 (by decide) (fun _ => ?_) (fun c9 => absurd c9 (by decide))
  refine lv_iload_n hx hb gX12_above_0.2.2.2.2.2.1 rfl (lv_at0 hl) ?_
  refine lv_iconst (v := 5) hx hb gX12_above_0.2.2.2.2.2.2.1 (by decide) ?_
  refine lv_icmp_ne (tgt := 18) hx hb gX12_above_0.2.2.2.2.2.2.2.1 (by decide) (fun _ => ?_) (fun c9 => absurd c9 (by decide))
  refine lv_iload_n hx hb gX12_above_1.1 rfl (lv_at0 hl) ?_
  refine lv_if_ne (tgt := 26) hx hb gX12_above_1.2.1 (by decide) (fun _ => ?_) (fun c9 => absurd c9 (by decide))
  refine lv_iconst (v := 0) hx hb gX12_above_1.2.2.2.2.1 (by decide) ?_
  refine toQ hQ0 ?_
  exact RP (v := 0) hC (rfl) rfl gX12_above_1.2.2.2.2.2
def K_m_hasOwn00 (l : Launch) (G : GG) : Prop := MP l G yX12_hasOwn cX12_hasOwn 2 (some .boolean) 1 [.int 0, .int 0] [] (fun r : Int32 => r = 1)
set_option maxHeartbeats 4000000 in
set_option maxRecDepth 100000 in
theorem m_hasOwn00 (l : Launch) (G : GG) : K_m_hasOwn00 l G := by
  refine MP.start (by decide +kernel) (Nat.le_of_ble_eq_true rfl) ?_
  intro p e s m below meth c ls hC hK hP hD hl
  refine absQ (fun Q0 hQ0 => ?_)
  have hl : lv_has ls 2 [(0, .int 0), (1, .int 0)] := hl
  refine Kan8 hC (fun hx hb hr hml hB hown hlocks hnm => ?_)
  refine lv_iload_n hx hb gX12_hasOwn_0.1 rfl (lv_at0 hl) ?_
  refine lv_tableIn (tgt := 40) hx hb gX12_hasOwn_0.2.1 (by decide) (by decide) rfl (by decide) ?_
  refine lv_iconst (v := 1) hx hb gX12_hasOwn_0.2.2.1 (by decide) ?_
  refine toQ hQ0 ?_
  exact RP (v := 1) hC (rfl) (by decide +kernel) gX12_hasOwn_0.2.2.2.1
def K_m_hasOwn01 (l : Launch) (G : GG) : Prop := MP l G yX12_hasOwn cX12_hasOwn 2 (some .boolean) 1 [.int 0, .int 1] [] (fun r : Int32 => r = 1)
set_option maxHeartbeats 4000000 in
set_option maxRecDepth 100000 in
theorem m_hasOwn01 (l : Launch) (G : GG) : K_m_hasOwn01 l G := by
  refine MP.start (by decide +kernel) (Nat.le_of_ble_eq_true rfl) ?_
  intro p e s m below meth c ls hC hK hP hD hl
  refine absQ (fun Q0 hQ0 => ?_)
  have hl : lv_has ls 2 [(0, .int 0), (1, .int 1)] := hl
  refine Kan8 hC (fun hx hb hr hml hB hown hlocks hnm => ?_)
  refine lv_iload_n hx hb gX12_hasOwn_0.1 rfl (lv_at0 hl) ?_
  refine lv_tableIn (tgt := 40) hx hb gX12_hasOwn_0.2.1 (by decide) (by decide) rfl (by decide) ?_
  refine lv_iconst (v := 1) hx hb gX12_hasOwn_0.2.2.1 (by decide) ?_
  refine toQ hQ0 ?_
  exact RP (v := 1) hC (rfl) (by decide +kernel) gX12_hasOwn_0.2.2.2.1
def K_m_hasOwn02 (l : Launch) (G : GG) : Prop := MP l G yX12_hasOwn cX12_hasOwn 2 (some .boolean) 1 [.int 0, .int 2] [] (fun r : Int32 => r = 1)
set_option maxHeartbeats 4000000 in
set_option maxRecDepth 100000 in
theorem m_hasOwn02 (l : Launch) (G : GG) : K_m_hasOwn02 l G := by
  refine MP.start (by decide +kernel) (Nat.le_of_ble_eq_true rfl) ?_
  intro p e s m below meth c ls hC hK hP hD hl
  refine absQ (fun Q0 hQ0 => ?_)
  have hl : lv_has ls 2 [(0, .int 0), (1, .int 2)] := hl
  refine Kan8 hC (fun hx hb hr hml hB hown hlocks hnm => ?_)
  refine lv_iload_n hx hb gX12_hasOwn_0.1 rfl (lv_at0 hl) ?_
  refine lv_tableIn (tgt := 40) hx hb gX12_hasOwn_0.2.1 (by decide) (by decide) rfl (by decide) ?_
  refine lv_iconst (v := 1) hx hb gX12_hasOwn_0.2.2.1 (by decide) ?_
  refine toQ hQ0 ?_
  exact RP (v := 1) hC (rfl) (by decide +kernel) gX12_hasOwn_0.2.2.2.1
def K_m_hasOwn03 (l : Launch) (G : GG) : Prop := MP l G yX12_hasOwn cX12_hasOwn 2 (some .boolean) 1 [.int 0, .int 3] [] (fun r : Int32 => r = 1)
set_option maxHeartbeats 4000000 in
set_option maxRecDepth 100000 in
theorem m_hasOwn03 (l : Launch) (G : GG) : K_m_hasOwn03 l G := by
  refine MP.start (by decide +kernel) (Nat.le_of_ble_eq_true rfl) ?_
  intro p e s m below meth c ls hC hK hP hD hl
  refine absQ (fun Q0 hQ0 => ?_)
  have hl : lv_has ls 2 [(0, .int 0), (1, .int 3)] := hl
  refine Kan8 hC (fun hx hb hr hml hB hown hlocks hnm => ?_)
  refine lv_iload_n hx hb gX12_hasOwn_0.1 rfl (lv_at0 hl) ?_
  refine lv_tableIn (tgt := 40) hx hb gX12_hasOwn_0.2.1 (by decide) (by decide) rfl (by decide) ?_
  refine lv_iconst (v := 1) hx hb gX12_hasOwn_0.2.2.1 (by decide) ?_
  refine toQ hQ0 ?_
  exact RP (v := 1) hC (rfl) (by decide +kernel) gX12_hasOwn_0.2.2.2.1
def K_m_hasOwn10 (l : Launch) (G : GG) : Prop := MP l G yX12_hasOwn cX12_hasOwn 2 (some .boolean) 1 [.int 1, .int 0] [] (fun r : Int32 => r = 0)
set_option maxHeartbeats 4000000 in
set_option maxRecDepth 100000 in
theorem m_hasOwn10 (l : Launch) (G : GG) : K_m_hasOwn10 l G := by
  refine MP.start (by decide +kernel) (Nat.le_of_ble_eq_true rfl) ?_
  intro p e s m below meth c ls hC hK hP hD hl
  refine absQ (fun Q0 hQ0 => ?_)
  have hl : lv_has ls 2 [(0, .int 1), (1, .int 0)] := hl
  refine Kan8 hC (fun hx hb hr hml hB hown hlocks hnm => ?_)
  refine lv_iload_n hx hb gX12_hasOwn_0.1 rfl (lv_at0 hl) ?_
  refine lv_tableIn (tgt := 42) hx hb gX12_hasOwn_0.2.1 (by decide) (by decide) rfl (by decide) ?_
  refine lv_iload_n hx hb gX12_hasOwn_0.2.2.2.2.1 rfl (lv_at1 hl) ?_
  refine lv_iconst (v := 1) hx hb gX12_hasOwn_0.2.2.2.2.2.1 (by decide) ?_
  refine lv_icmp_ne (tgt := 51) hx hb gX12_hasOwn_0.2.2.2.2.2.2.1 (by decide) (fun _ => ?_) (fun c9 => absurd c9 (by decide))
  refine lv_iconst (v := 0) hx hb gX12_hasOwn_0.2.2.2.2.2.2.2.2.2 (by decide) ?_
  refine toQ hQ0 ?_
  exact RP (v := 0) hC (rfl) (by decide +kernel) gX12_hasOwn_1.1
def K_m_hasOwn11 (l : Launch) (G : GG) : Prop := MP l G yX12_hasOwn cX12_hasOwn 2 (some .boolean) 1 [.int 1, .int 1] [] (fun r : Int32 => r = 1)
set_option maxHeartbeats 4000000 in
set_option maxRecDepth 100000 in
theorem m_hasOwn11 (l : Launch) (G : GG) : K_m_hasOwn11 l G := by
  refine MP.start (by decide +kernel) (Nat.le_of_ble_eq_true rfl) ?_
  intro p e s m below meth c ls hC hK hP hD hl
  refine absQ (fun Q0 hQ0 => ?_)
  have hl : lv_has ls 2 [(0, .int 1), (1, .int 1)] := hl
  refine Kan8 hC (fun hx hb hr hml hB hown hlocks hnm => ?_)
  refine lv_iload_n hx hb gX12_hasOwn_0.1 rfl (lv_at0 hl) ?_
  refine lv_tableIn (tgt := 42) hx hb gX12_hasOwn_0.2.1 (by decide) (by decide) rfl (by decide) ?_
  refine lv_iload_n hx hb gX12_hasOwn_0.2.2.2.2.1 rfl (lv_at1 hl) ?_
  refine lv_iconst (v := 1) hx hb gX12_hasOwn_0.2.2.2.2.2.1 (by decide) ?_
  refine lv_icmp_ne (tgt := 51) hx hb gX12_hasOwn_0.2.2.2.2.2.2.1 (by decide) (fun c9 => absurd (by decide) c9) (fun _ => ?_)
  refine lv_iconst (v := 1) hx hb gX12_hasOwn_0.2.2.2.2.2.2.2.1 (by decide) ?_
  refine lv_goto (tgt := 52) hx hb gX12_hasOwn_0.2.2.2.2.2.2.2.2.1 (by decide) ?_
  refine toQ hQ0 ?_
  exact RP (v := 1) hC (rfl) (by decide +kernel) gX12_hasOwn_1.1
def K_m_hasOwn12 (l : Launch) (G : GG) : Prop := MP l G yX12_hasOwn cX12_hasOwn 2 (some .boolean) 1 [.int 1, .int 2] [] (fun r : Int32 => r = 0)
set_option maxHeartbeats 4000000 in
set_option maxRecDepth 100000 in
theorem m_hasOwn12 (l : Launch) (G : GG) : K_m_hasOwn12 l G := by
  refine MP.start (by decide +kernel) (Nat.le_of_ble_eq_true rfl) ?_
  intro p e s m below meth c ls hC hK hP hD hl
  refine absQ (fun Q0 hQ0 => ?_)
  have hl : lv_has ls 2 [(0, .int 1), (1, .int 2)] := hl
  refine Kan8 hC (fun hx hb hr hml hB hown hlocks hnm => ?_)
  refine lv_iload_n hx hb gX12_hasOwn_0.1 rfl (lv_at0 hl) ?_
  refine lv_tableIn (tgt := 42) hx hb gX12_hasOwn_0.2.1 (by decide) (by decide) rfl (by decide) ?_
  refine lv_iload_n hx hb gX12_hasOwn_0.2.2.2.2.1 rfl (lv_at1 hl) ?_
  refine lv_iconst (v := 1) hx hb gX12_hasOwn_0.2.2.2.2.2.1 (by decide) ?_
  refine lv_icmp_ne (tgt := 51) hx hb gX12_hasOwn_0.2.2.2.2.2.2.1 (by decide) (fun _ => ?_) (fun c9 => absurd c9 (by decide))
  refine lv_iconst (v := 0) hx hb gX12_hasOwn_0.2.2.2.2.2.2.2.2.2 (by decide) ?_
  refine toQ hQ0 ?_
  exact RP (v := 0) hC (rfl) (by decide +kernel) gX12_hasOwn_1.1
def K_m_hasOwn13 (l : Launch) (G : GG) : Prop := MP l G yX12_hasOwn cX12_hasOwn 2 (some .boolean) 1 [.int 1, .int 3] [] (fun r : Int32 => r = 0)
set_option maxHeartbeats 4000000 in
set_option maxRecDepth 100000 in
theorem m_hasOwn13 (l : Launch) (G : GG) : K_m_hasOwn13 l G := by
  refine MP.start (by decide +kernel) (Nat.le_of_ble_eq_true rfl) ?_
  intro p e s m below meth c ls hC hK hP hD hl
  refine absQ (fun Q0 hQ0 => ?_)
  have hl : lv_has ls 2 [(0, .int 1), (1, .int 3)] := hl
  refine Kan8 hC (fun hx hb hr hml hB hown hlocks hnm => ?_)
  refine lv_iload_n hx hb gX12_hasOwn_0.1 rfl (lv_at0 hl) ?_
  refine lv_tableIn (tgt := 42) hx hb gX12_hasOwn_0.2.1 (by decide) (by decide) rfl (by decide) ?_
  refine lv_iload_n hx hb gX12_hasOwn_0.2.2.2.2.1 rfl (lv_at1 hl) ?_
  refine lv_iconst (v := 1) hx hb gX12_hasOwn_0.2.2.2.2.2.1 (by decide) ?_
  refine lv_icmp_ne (tgt := 51) hx hb gX12_hasOwn_0.2.2.2.2.2.2.1 (by decide) (fun _ => ?_) (fun c9 => absurd c9 (by decide))
  refine lv_iconst (v := 0) hx hb gX12_hasOwn_0.2.2.2.2.2.2.2.2.2 (by decide) ?_
  refine toQ hQ0 ?_
  exact RP (v := 0) hC (rfl) (by decide +kernel) gX12_hasOwn_1.1
def K_m_hasOwn20 (l : Launch) (G : GG) : Prop := MP l G yX12_hasOwn cX12_hasOwn 2 (some .boolean) 1 [.int 2, .int 0] [] (fun r : Int32 => r = 0)
set_option maxHeartbeats 4000000 in
set_option maxRecDepth 100000 in
theorem m_hasOwn20 (l : Launch) (G : GG) : K_m_hasOwn20 l G := by
  refine MP.start (by decide +kernel) (Nat.le_of_ble_eq_true rfl) ?_
  intro p e s m below meth c ls hC hK hP hD hl
  refine absQ (fun Q0 hQ0 => ?_)
  have hl : lv_has ls 2 [(0, .int 2), (1, .int 0)] := hl
  refine Kan8 hC (fun hx hb hr hml hB hown hlocks hnm => ?_)
  refine lv_iload_n hx hb gX12_hasOwn_0.1 rfl (lv_at0 hl) ?_
  refine lv_tableIn (tgt := 53) hx hb gX12_hasOwn_0.2.1 (by decide) (by decide) rfl (by decide) ?_
  refine lv_iload_n hx hb gX12_hasOwn_1.2.1 rfl (lv_at1 hl) ?_
  refine lv_iconst (v := 2) hx hb gX12_hasOwn_1.2.2.1 (by decide) ?_
  refine lv_icmp_ne (tgt := 62) hx hb gX12_hasOwn_1.2.2.2.1 (by decide) (fun _ => ?_) (fun c9 => absurd c9 (by decide))
  refine lv_iconst (v := 0) hx hb gX12_hasOwn_1.2.2.2.2.2.2.1 (by decide) ?_
  refine toQ hQ0 ?_
  exact RP (v := 0) hC (rfl) (by decide +kernel) gX12_hasOwn_1.2.2.2.2.2.2.2.1
def K_m_hasOwn21 (l : Launch) (G : GG) : Prop := MP l G yX12_hasOwn cX12_hasOwn 2 (some .boolean) 1 [.int 2, .int 1] [] (fun r : Int32 => r = 0)
set_option maxHeartbeats 4000000 in
set_option maxRecDepth 100000 in
theorem m_hasOwn21 (l : Launch) (G : GG) : K_m_hasOwn21 l G := by
  refine MP.start (by decide +kernel) (Nat.le_of_ble_eq_true rfl) ?_
  intro p e s m below meth c ls hC hK hP hD hl
  refine absQ (fun Q0 hQ0 => ?_)
  have hl : lv_has ls 2 [(0, .int 2), (1, .int 1)] := hl
  refine Kan8 hC (fun hx hb hr hml hB hown hlocks hnm => ?_)
  refine lv_iload_n hx hb gX12_hasOwn_0.1 rfl (lv_at0 hl) ?_
  refine lv_tableIn (tgt := 53) hx hb gX12_hasOwn_0.2.1 (by decide) (by decide) rfl (by decide) ?_
  refine lv_iload_n hx hb gX12_hasOwn_1.2.1 rfl (lv_at1 hl) ?_
  refine lv_iconst (v := 2) hx hb gX12_hasOwn_1.2.2.1 (by decide) ?_
  refine lv_icmp_ne (tgt := 62) hx hb gX12_hasOwn_1.2.2.2.1 (by decide) (fun _ => ?_) (fun c9 => absurd c9 (by decide))
  refine lv_iconst (v := 0) hx hb gX12_hasOwn_1.2.2.2.2.2.2.1 (by decide) ?_
  refine toQ hQ0 ?_
  exact RP (v := 0) hC (rfl) (by decide +kernel) gX12_hasOwn_1.2.2.2.2.2.2.2.1
def K_m_hasOwn22 (l : Launch) (G : GG) : Prop := MP l G yX12_hasOwn cX12_hasOwn 2 (some .boolean) 1 [.int 2, .int 2] [] (fun r : Int32 => r = 1)
set_option maxHeartbeats 4000000 in
set_option maxRecDepth 100000 in
theorem m_hasOwn22 (l : Launch) (G : GG) : K_m_hasOwn22 l G := by
  refine MP.start (by decide +kernel) (Nat.le_of_ble_eq_true rfl) ?_
  intro p e s m below meth c ls hC hK hP hD hl
  refine absQ (fun Q0 hQ0 => ?_)
  have hl : lv_has ls 2 [(0, .int 2), (1, .int 2)] := hl
  refine Kan8 hC (fun hx hb hr hml hB hown hlocks hnm => ?_)
  refine lv_iload_n hx hb gX12_hasOwn_0.1 rfl (lv_at0 hl) ?_
  refine lv_tableIn (tgt := 53) hx hb gX12_hasOwn_0.2.1 (by decide) (by decide) rfl (by decide) ?_
  refine lv_iload_n hx hb gX12_hasOwn_1.2.1 rfl (lv_at1 hl) ?_
  refine lv_iconst (v := 2) hx hb gX12_hasOwn_1.2.2.1 (by decide) ?_
  refine lv_icmp_ne (tgt := 62) hx hb gX12_hasOwn_1.2.2.2.1 (by decide) (fun c9 => absurd (by decide) c9) (fun _ => ?_)
  refine lv_iconst (v := 1) hx hb gX12_hasOwn_1.2.2.2.2.1 (by decide) ?_
  refine lv_goto (tgt := 63) hx hb gX12_hasOwn_1.2.2.2.2.2.1 (by decide) ?_
  refine toQ hQ0 ?_
  exact RP (v := 1) hC (rfl) (by decide +kernel) gX12_hasOwn_1.2.2.2.2.2.2.2.1
def K_m_hasOwn23 (l : Launch) (G : GG) : Prop := MP l G yX12_hasOwn cX12_hasOwn 2 (some .boolean) 1 [.int 2, .int 3] [] (fun r : Int32 => r = 0)
set_option maxHeartbeats 4000000 in
set_option maxRecDepth 100000 in
theorem m_hasOwn23 (l : Launch) (G : GG) : K_m_hasOwn23 l G := by
  refine MP.start (by decide +kernel) (Nat.le_of_ble_eq_true rfl) ?_
  intro p e s m below meth c ls hC hK hP hD hl
  refine absQ (fun Q0 hQ0 => ?_)
  have hl : lv_has ls 2 [(0, .int 2), (1, .int 3)] := hl
  refine Kan8 hC (fun hx hb hr hml hB hown hlocks hnm => ?_)
  refine lv_iload_n hx hb gX12_hasOwn_0.1 rfl (lv_at0 hl) ?_
  refine lv_tableIn (tgt := 53) hx hb gX12_hasOwn_0.2.1 (by decide) (by decide) rfl (by decide) ?_
  refine lv_iload_n hx hb gX12_hasOwn_1.2.1 rfl (lv_at1 hl) ?_
  refine lv_iconst (v := 2) hx hb gX12_hasOwn_1.2.2.1 (by decide) ?_
  refine lv_icmp_ne (tgt := 62) hx hb gX12_hasOwn_1.2.2.2.1 (by decide) (fun _ => ?_) (fun c9 => absurd c9 (by decide))
  refine lv_iconst (v := 0) hx hb gX12_hasOwn_1.2.2.2.2.2.2.1 (by decide) ?_
  refine toQ hQ0 ?_
  exact RP (v := 0) hC (rfl) (by decide +kernel) gX12_hasOwn_1.2.2.2.2.2.2.2.1
def K_m_hasOwn30 (l : Launch) (G : GG) : Prop := MP l G yX12_hasOwn cX12_hasOwn 2 (some .boolean) 1 [.int 3, .int 0] [] (fun r : Int32 => r = 0)
set_option maxHeartbeats 4000000 in
set_option maxRecDepth 100000 in
theorem m_hasOwn30 (l : Launch) (G : GG) : K_m_hasOwn30 l G := by
  refine MP.start (by decide +kernel) (Nat.le_of_ble_eq_true rfl) ?_
  intro p e s m below meth c ls hC hK hP hD hl
  refine absQ (fun Q0 hQ0 => ?_)
  have hl : lv_has ls 2 [(0, .int 3), (1, .int 0)] := hl
  refine Kan8 hC (fun hx hb hr hml hB hown hlocks hnm => ?_)
  refine lv_iload_n hx hb gX12_hasOwn_0.1 rfl (lv_at0 hl) ?_
  refine lv_tableIn (tgt := 64) hx hb gX12_hasOwn_0.2.1 (by decide) (by decide) rfl (by decide) ?_
  refine lv_iload_n hx hb gX12_hasOwn_1.2.2.2.2.2.2.2.2.1 rfl (lv_at1 hl) ?_
  refine lv_iconst (v := 1) hx hb gX12_hasOwn_1.2.2.2.2.2.2.2.2.2 (by decide) ?_
  refine lv_icmp_eq (tgt := 74) hx hb gX12_hasOwn_2.1 (by decide) (fun c9 => absurd c9 (by decide)) (fun _ => ?_)
  refine lv_iload_n hx hb gX12_hasOwn_2.2.1 rfl (lv_at1 hl) ?_
  refine lv_iconst (v := 3) hx hb gX12_hasOwn_2.2.2.1 (by decide) ?_
  refine lv_icmp_ne (tgt := 78) hx hb gX12_hasOwn_2.2.2.2.1 (by decide) (fun _ => ?_) (fun c9 => absurd c9 (by decide))
  refine lv_iconst (v := 0) hx hb gX12_hasOwn_2.2.2.2.2.2.2.1 (by decide) ?_
  refine toQ hQ0 ?_
  exact RP (v := 0) hC (rfl) (by decide +kernel) gX12_hasOwn_2.2.2.2.2.2.2.2.1
def K_m_hasOwn31 (l : Launch) (G : GG) : Prop := MP l G yX12_hasOwn cX12_hasOwn 2 (some .boolean) 1 [.int 3, .int 1] [] (fun r : Int32 => r = 1)
set_option maxHeartbeats 4000000 in
set_option maxRecDepth 100000 in
theorem m_hasOwn31 (l : Launch) (G : GG) : K_m_hasOwn31 l G := by
  refine MP.start (by decide +kernel) (Nat.le_of_ble_eq_true rfl) ?_
  intro p e s m below meth c ls hC hK hP hD hl
  refine absQ (fun Q0 hQ0 => ?_)
  have hl : lv_has ls 2 [(0, .int 3), (1, .int 1)] := hl
  refine Kan8 hC (fun hx hb hr hml hB hown hlocks hnm => ?_)
  refine lv_iload_n hx hb gX12_hasOwn_0.1 rfl (lv_at0 hl) ?_
  refine lv_tableIn (tgt := 64) hx hb gX12_hasOwn_0.2.1 (by decide) (by decide) rfl (by decide) ?_
  refine lv_iload_n hx hb gX12_hasOwn_1.2.2.2.2.2.2.2.2.1 rfl (lv_at1 hl) ?_
  refine lv_iconst (v := 1) hx hb gX12_hasOwn_1.2.2.2.2.2.2.2.2.2 (by decide) ?_
  refine lv_icmp_eq (tgt := 74) hx hb gX12_hasOwn_2.1 (by decide) (fun _ => ?_) (fun c9 => absurd (by decide) c9)
  refine lv_iconst (v := 1) hx hb gX12_hasOwn_2.2.2.2.2.1 (by decide) ?_
  refine lv_goto (tgt := 79) hx hb gX12_hasOwn_2.2.2.2.2.2.1 (by decide) ?_
  refine toQ hQ0 ?_
  exact RP (v := 1) hC (rfl) (by decide +kernel) gX12_hasOwn_2.2.2.2.2.2.2.2.1
def K_m_hasOwn32 (l : Launch) (G : GG) : Prop := MP l G yX12_hasOwn cX12_hasOwn 2 (some .boolean) 1 [.int 3, .int 2] [] (fun r : Int32 => r = 0)
set_option maxHeartbeats 4000000 in
set_option maxRecDepth 100000 in
theorem m_hasOwn32 (l : Launch) (G : GG) : K_m_hasOwn32 l G := by
  refine MP.start (by decide +kernel) (Nat.le_of_ble_eq_true rfl) ?_
  intro p e s m below meth c ls hC hK hP hD hl
  refine absQ (fun Q0 hQ0 => ?_)
  have hl : lv_has ls 2 [(0, .int 3), (1, .int 2)] := hl
  refine Kan8 hC (fun hx hb hr hml hB hown hlocks hnm => ?_)
  refine lv_iload_n hx hb gX12_hasOwn_0.1 rfl (lv_at0 hl) ?_
  refine lv_tableIn (tgt := 64) hx hb gX12_hasOwn_0.2.1 (by decide) (by decide) rfl (by decide) ?_
  refine lv_iload_n hx hb gX12_hasOwn_1.2.2.2.2.2.2.2.2.1 rfl (lv_at1 hl) ?_
  refine lv_iconst (v := 1) hx hb gX12_hasOwn_1.2.2.2.2.2.2.2.2.2 (by decide) ?_
  refine lv_icmp_eq (tgt := 74) hx hb gX12_hasOwn_2.1 (by decide) (fun c9 => absurd c9 (by decide)) (fun _ => ?_)
  refine lv_iload_n hx hb gX12_hasOwn_2.2.1 rfl (lv_at1 hl) ?_
  refine lv_iconst (v := 3) hx hb gX12_hasOwn_2.2.2.1 (by decide) ?_
  refine lv_icmp_ne (tgt := 78) hx hb gX12_hasOwn_2.2.2.2.1 (by decide) (fun _ => ?_) (fun c9 => absurd c9 (by decide))
  refine lv_iconst (v := 0) hx hb gX12_hasOwn_2.2.2.2.2.2.2.1 (by decide) ?_
  refine toQ hQ0 ?_
  exact RP (v := 0) hC (rfl) (by decide +kernel) gX12_hasOwn_2.2.2.2.2.2.2.2.1
def K_m_hasOwn33 (l : Launch) (G : GG) : Prop := MP l G yX12_hasOwn cX12_hasOwn 2 (some .boolean) 1 [.int 3, .int 3] [] (fun r : Int32 => r = 1)
set_option maxHeartbeats 4000000 in
set_option maxRecDepth 100000 in
theorem m_hasOwn33 (l : Launch) (G : GG) : K_m_hasOwn33 l G := by
  refine MP.start (by decide +kernel) (Nat.le_of_ble_eq_true rfl) ?_
  intro p e s m below meth c ls hC hK hP hD hl
  refine absQ (fun Q0 hQ0 => ?_)
  have hl : lv_has ls 2 [(0, .int 3), (1, .int 3)] := hl
  refine Kan8 hC (fun hx hb hr hml hB hown hlocks hnm => ?_)
  refine lv_iload_n hx hb gX12_hasOwn_0.1 rfl (lv_at0 hl) ?_
  refine lv_tableIn (tgt := 64) hx hb gX12_hasOwn_0.2.1 (by decide) (by decide) rfl (by decide) ?_
  refine lv_iload_n hx hb gX12_hasOwn_1.2.2.2.2.2.2.2.2.1 rfl (lv_at1 hl) ?_
  refine lv_iconst (v := 1) hx hb gX12_hasOwn_1.2.2.2.2.2.2.2.2.2 (by decide) ?_
  refine lv_icmp_eq (tgt := 74) hx hb gX12_hasOwn_2.1 (by decide) (fun c9 => absurd c9 (by decide)) (fun _ => ?_)
  refine lv_iload_n hx hb gX12_hasOwn_2.2.1 rfl (lv_at1 hl) ?_
  refine lv_iconst (v := 3) hx hb gX12_hasOwn_2.2.2.1 (by decide) ?_
  refine lv_icmp_ne (tgt := 78) hx hb gX12_hasOwn_2.2.2.2.1 (by decide) (fun c9 => absurd (by decide) c9) (fun _ => ?_)
  refine lv_iconst (v := 1) hx hb gX12_hasOwn_2.2.2.2.2.1 (by decide) ?_
  refine lv_goto (tgt := 79) hx hb gX12_hasOwn_2.2.2.2.2.2.1 (by decide) ?_
  refine toQ hQ0 ?_
  exact RP (v := 1) hC (rfl) (by decide +kernel) gX12_hasOwn_2.2.2.2.2.2.2.2.1
def K_m_hasOwn40 (l : Launch) (G : GG) : Prop := MP l G yX12_hasOwn cX12_hasOwn 2 (some .boolean) 1 [.int 4, .int 0] [] (fun r : Int32 => r = 1)
set_option maxHeartbeats 4000000 in
set_option maxRecDepth 100000 in
theorem m_hasOwn40 (l : Launch) (G : GG) : K_m_hasOwn40 l G := by
  refine MP.start (by decide +kernel) (Nat.le_of_ble_eq_true rfl) ?_
  intro p e s m below meth c ls hC hK hP hD hl
  refine absQ (fun Q0 hQ0 => ?_)
  have hl : lv_has ls 2 [(0, .int 4), (1, .int 0)] := hl
  refine Kan8 hC (fun hx hb hr hml hB hown hlocks hnm => ?_)
  refine lv_iload_n hx hb gX12_hasOwn_0.1 rfl (lv_at0 hl) ?_
  refine lv_tableIn (tgt := 80) hx hb gX12_hasOwn_0.2.1 (by decide) (by decide) rfl (by decide) ?_
  refine lv_iload_n hx hb gX12_hasOwn_2.2.2.2.2.2.2.2.2.1 rfl (lv_at1 hl) ?_
  refine lv_if_eq (tgt := 89) hx hb gX12_hasOwn_2.2.2.2.2.2.2.2.2.2 (by decide) (fun _ => ?_) (fun c9 => absurd (by decide) c9)
  refine lv_iconst (v := 1) hx hb gX12_hasOwn_3.2.2.2.1 (by decide) ?_
  refine lv_goto (tgt := 94) hx hb gX12_hasOwn_3.2.2.2.2.1 (by decide) ?_
  refine toQ hQ0 ?_
  exact RP (v := 1) hC (rfl) (by decide +kernel) gX12_hasOwn_3.2.2.2.2.2.2.1
def K_m_hasOwn41 (l : Launch) (G : GG) : Prop := MP l G yX12_hasOwn cX12_hasOwn 2 (some .boolean) 1 [.int 4, .int 1] [] (fun r : Int32 => r = 0)
set_option maxHeartbeats 4000000 in
set_option maxRecDepth 100000 in
theorem m_hasOwn41 (l : Launch) (G : GG) : K_m_hasOwn41 l G := by
  refine MP.start (by decide +kernel) (Nat.le_of_ble_eq_true rfl) ?_
  intro p e s m below meth c ls hC hK hP hD hl
  refine absQ (fun Q0 hQ0 => ?_)
  have hl : lv_has ls 2 [(0, .int 4), (1, .int 1)] := hl
  refine Kan8 hC (fun hx hb hr hml hB hown hlocks hnm => ?_)
  refine lv_iload_n hx hb gX12_hasOwn_0.1 rfl (lv_at0 hl) ?_
  refine lv_tableIn (tgt := 80) hx hb gX12_hasOwn_0.2.1 (by decide) (by decide) rfl (by decide) ?_
  refine lv_iload_n hx hb gX12_hasOwn_2.2.2.2.2.2.2.2.2.1 rfl (lv_at1 hl) ?_
  refine lv_if_eq (tgt := 89) hx hb gX12_hasOwn_2.2.2.2.2.2.2.2.2.2 (by decide) (fun c9 => absurd c9 (by decide)) (fun _ => ?_)
  refine lv_iload_n hx hb gX12_hasOwn_3.1 rfl (lv_at1 hl) ?_
  refine lv_iconst (v := 2) hx hb gX12_hasOwn_3.2.1 (by decide) ?_
  refine lv_icmp_ne (tgt := 93) hx hb gX12_hasOwn_3.2.2.1 (by decide) (fun _ => ?_) (fun c9 => absurd c9 (by decide))
  refine lv_iconst (v := 0) hx hb gX12_hasOwn_3.2.2.2.2.2.1 (by decide) ?_
  refine toQ hQ0 ?_
  exact RP (v := 0) hC (rfl) (by decide +kernel) gX12_hasOwn_3.2.2.2.2.2.2.1
def K_m_hasOwn42 (l : Launch) (G : GG) : Prop := MP l G yX12_hasOwn cX12_hasOwn 2 (some .boolean) 1 [.int 4, .int 2] [] (fun r : Int32 => r = 1)
set_option maxHeartbeats 4000000 in
set_option maxRecDepth 100000 in
theorem m_hasOwn42 (l : Launch) (G : GG) : K_m_hasOwn42 l G := by
  refine MP.start (by decide +kernel) (Nat.le_of_ble_eq_true rfl) ?_
  intro p e s m below meth c ls hC hK hP hD hl
  refine absQ (fun Q0 hQ0 => ?_)
  have hl : lv_has ls 2 [(0, .int 4), (1, .int 2)] := hl
  refine Kan8 hC (fun hx hb hr hml hB hown hlocks hnm => ?_)
  refine lv_iload_n hx hb gX12_hasOwn_0.1 rfl (lv_at0 hl) ?_
  refine lv_tableIn (tgt := 80) hx hb gX12_hasOwn_0.2.1 (by decide) (by decide) rfl (by decide) ?_
  refine lv_iload_n hx hb gX12_hasOwn_2.2.2.2.2.2.2.2.2.1 rfl (lv_at1 hl) ?_
  refine lv_if_eq (tgt := 89) hx hb gX12_hasOwn_2.2.2.2.2.2.2.2.2.2 (by decide) (fun c9 => absurd c9 (by decide)) (fun _ => ?_)
  refine lv_iload_n hx hb gX12_hasOwn_3.1 rfl (lv_at1 hl) ?_
  refine lv_iconst (v := 2) hx hb gX12_hasOwn_3.2.1 (by decide) ?_
  refine lv_icmp_ne (tgt := 93) hx hb gX12_hasOwn_3.2.2.1 (by decide) (fun c9 => absurd (by decide) c9) (fun _ => ?_)
  refine lv_iconst (v := 1) hx hb gX12_hasOwn_3.2.2.2.1 (by decide) ?_
  refine lv_goto (tgt := 94) hx hb gX12_hasOwn_3.2.2.2.2.1 (by decide) ?_
  refine toQ hQ0 ?_
  exact RP (v := 1) hC (rfl) (by decide +kernel) gX12_hasOwn_3.2.2.2.2.2.2.1
def K_m_hasOwn43 (l : Launch) (G : GG) : Prop := MP l G yX12_hasOwn cX12_hasOwn 2 (some .boolean) 1 [.int 4, .int 3] [] (fun r : Int32 => r = 0)
set_option maxHeartbeats 4000000 in
set_option maxRecDepth 100000 in
theorem m_hasOwn43 (l : Launch) (G : GG) : K_m_hasOwn43 l G := by
  refine MP.start (by decide +kernel) (Nat.le_of_ble_eq_true rfl) ?_
  intro p e s m below meth c ls hC hK hP hD hl
  refine absQ (fun Q0 hQ0 => ?_)
  have hl : lv_has ls 2 [(0, .int 4), (1, .int 3)] := hl
  refine Kan8 hC (fun hx hb hr hml hB hown hlocks hnm => ?_)
  refine lv_iload_n hx hb gX12_hasOwn_0.1 rfl (lv_at0 hl) ?_
  refine lv_tableIn (tgt := 80) hx hb gX12_hasOwn_0.2.1 (by decide) (by decide) rfl (by decide) ?_
  refine lv_iload_n hx hb gX12_hasOwn_2.2.2.2.2.2.2.2.2.1 rfl (lv_at1 hl) ?_
  refine lv_if_eq (tgt := 89) hx hb gX12_hasOwn_2.2.2.2.2.2.2.2.2.2 (by decide) (fun c9 => absurd c9 (by decide)) (fun _ => ?_)
  refine lv_iload_n hx hb gX12_hasOwn_3.1 rfl (lv_at1 hl) ?_
  refine lv_iconst (v := 2) hx hb gX12_hasOwn_3.2.1 (by decide) ?_
  refine lv_icmp_ne (tgt := 93) hx hb gX12_hasOwn_3.2.2.1 (by decide) (fun _ => ?_) (fun c9 => absurd c9 (by decide))
  refine lv_iconst (v := 0) hx hb gX12_hasOwn_3.2.2.2.2.2.1 (by decide) ?_
  refine toQ hQ0 ?_
  exact RP (v := 0) hC (rfl) (by decide +kernel) gX12_hasOwn_3.2.2.2.2.2.2.1
def K_m_hasOwn50 (l : Launch) (G : GG) : Prop := MP l G yX12_hasOwn cX12_hasOwn 2 (some .boolean) 1 [.int 5, .int 0] [] (fun r : Int32 => r = 1)
set_option maxHeartbeats 4000000 in
set_option maxRecDepth 100000 in
theorem m_hasOwn50 (l : Launch) (G : GG) : K_m_hasOwn50 l G := by
  refine MP.start (by decide +kernel) (Nat.le_of_ble_eq_true rfl) ?_
  intro p e s m below meth c ls hC hK hP hD hl
  refine absQ (fun Q0 hQ0 => ?_)
  have hl : lv_has ls 2 [(0, .int 5), (1, .int 0)] := hl
  refine Kan8 hC (fun hx hb hr hml hB hown hlocks hnm => ?_)
  refine lv_iload_n hx hb gX12_hasOwn_0.1 rfl (lv_at0 hl) ?_
  refine lv_tableIn (tgt := 80) hx hb gX12_hasOwn_0.2.1 (by decide) (by decide) rfl (by decide) ?_
  refine lv_iload_n hx hb gX12_hasOwn_2.2.2.2.2.2.2.2.2.1 rfl (lv_at1 hl) ?_
  refine lv_if_eq (tgt := 89) hx hb gX12_hasOwn_2.2.2.2.2.2.2.2.2.2 (by decide) (fun _ => ?_) (fun c9 => absurd (by decide) c9)
  refine lv_iconst (v := 1) hx hb gX12_hasOwn_3.2.2.2.1 (by decide) ?_
  refine lv_goto (tgt := 94) hx hb gX12_hasOwn_3.2.2.2.2.1 (by decide) ?_
  refine toQ hQ0 ?_
  exact RP (v := 1) hC (rfl) (by decide +kernel) gX12_hasOwn_3.2.2.2.2.2.2.1
def K_m_hasOwn51 (l : Launch) (G : GG) : Prop := MP l G yX12_hasOwn cX12_hasOwn 2 (some .boolean) 1 [.int 5, .int 1] [] (fun r : Int32 => r = 0)
set_option maxHeartbeats 4000000 in
set_option maxRecDepth 100000 in
theorem m_hasOwn51 (l : Launch) (G : GG) : K_m_hasOwn51 l G := by
  refine MP.start (by decide +kernel) (Nat.le_of_ble_eq_true rfl) ?_
  intro p e s m below meth c ls hC hK hP hD hl
  refine absQ (fun Q0 hQ0 => ?_)
  have hl : lv_has ls 2 [(0, .int 5), (1, .int 1)] := hl
  refine Kan8 hC (fun hx hb hr hml hB hown hlocks hnm => ?_)
  refine lv_iload_n hx hb gX12_hasOwn_0.1 rfl (lv_at0 hl) ?_
  refine lv_tableIn (tgt := 80) hx hb gX12_hasOwn_0.2.1 (by decide) (by decide) rfl (by decide) ?_
  refine lv_iload_n hx hb gX12_hasOwn_2.2.2.2.2.2.2.2.2.1 rfl (lv_at1 hl) ?_
  refine lv_if_eq (tgt := 89) hx hb gX12_hasOwn_2.2.2.2.2.2.2.2.2.2 (by decide) (fun c9 => absurd c9 (by decide)) (fun _ => ?_)
  refine lv_iload_n hx hb gX12_hasOwn_3.1 rfl (lv_at1 hl) ?_
  refine lv_iconst (v := 2) hx hb gX12_hasOwn_3.2.1 (by decide) ?_
  refine lv_icmp_ne (tgt := 93) hx hb gX12_hasOwn_3.2.2.1 (by decide) (fun _ => ?_) (fun c9 => absurd c9 (by decide))
  refine lv_iconst (v := 0) hx hb gX12_hasOwn_3.2.2.2.2.2.1 (by decide) ?_
  refine toQ hQ0 ?_
  exact RP (v := 0) hC (rfl) (by decide +kernel) gX12_hasOwn_3.2.2.2.2.2.2.1
def K_m_hasOwn52 (l : Launch) (G : GG) : Prop := MP l G yX12_hasOwn cX12_hasOwn 2 (some .boolean) 1 [.int 5, .int 2] [] (fun r : Int32 => r = 1)
set_option maxHeartbeats 4000000 in
set_option maxRecDepth 100000 in
theorem m_hasOwn52 (l : Launch) (G : GG) : K_m_hasOwn52 l G := by
  refine MP.start (by decide +kernel) (Nat.le_of_ble_eq_true rfl) ?_
  intro p e s m below meth c ls hC hK hP hD hl
  refine absQ (fun Q0 hQ0 => ?_)
  have hl : lv_has ls 2 [(0, .int 5), (1, .int 2)] := hl
  refine Kan8 hC (fun hx hb hr hml hB hown hlocks hnm => ?_)
  refine lv_iload_n hx hb gX12_hasOwn_0.1 rfl (lv_at0 hl) ?_
  refine lv_tableIn (tgt := 80) hx hb gX12_hasOwn_0.2.1 (by decide) (by decide) rfl (by decide) ?_
  refine lv_iload_n hx hb gX12_hasOwn_2.2.2.2.2.2.2.2.2.1 rfl (lv_at1 hl) ?_
  refine lv_if_eq (tgt := 89) hx hb gX12_hasOwn_2.2.2.2.2.2.2.2.2.2 (by decide) (fun c9 => absurd c9 (by decide)) (fun _ => ?_)
  refine lv_iload_n hx hb gX12_hasOwn_3.1 rfl (lv_at1 hl) ?_
  refine lv_iconst (v := 2) hx hb gX12_hasOwn_3.2.1 (by decide) ?_
  refine lv_icmp_ne (tgt := 93) hx hb gX12_hasOwn_3.2.2.1 (by decide) (fun c9 => absurd (by decide) c9) (fun _ => ?_)
  refine lv_iconst (v := 1) hx hb gX12_hasOwn_3.2.2.2.1 (by decide) ?_
  refine lv_goto (tgt := 94) hx hb gX12_hasOwn_3.2.2.2.2.1 (by decide) ?_
  refine toQ hQ0 ?_
  exact RP (v := 1) hC (rfl) (by decide +kernel) gX12_hasOwn_3.2.2.2.2.2.2.1
def K_m_hasOwn53 (l : Launch) (G : GG) : Prop := MP l G yX12_hasOwn cX12_hasOwn 2 (some .boolean) 1 [.int 5, .int 3] [] (fun r : Int32 => r = 0)
set_option maxHeartbeats 4000000 in
set_option maxRecDepth 100000 in
theorem m_hasOwn53 (l : Launch) (G : GG) : K_m_hasOwn53 l G := by
  refine MP.start (by decide +kernel) (Nat.le_of_ble_eq_true rfl) ?_
  intro p e s m below meth c ls hC hK hP hD hl
  refine absQ (fun Q0 hQ0 => ?_)
  have hl : lv_has ls 2 [(0, .int 5), (1, .int 3)] := hl
  refine Kan8 hC (fun hx hb hr hml hB hown hlocks hnm => ?_)
  refine lv_iload_n hx hb gX12_hasOwn_0.1 rfl (lv_at0 hl) ?_
  refine lv_tableIn (tgt := 80) hx hb gX12_hasOwn_0.2.1 (by decide) (by decide) rfl (by decide) ?_
  refine lv_iload_n hx hb gX12_hasOwn_2.2.2.2.2.2.2.2.2.1 rfl (lv_at1 hl) ?_
  refine lv_if_eq (tgt := 89) hx hb gX12_hasOwn_2.2.2.2.2.2.2.2.2.2 (by decide) (fun c9 => absurd c9 (by decide)) (fun _ => ?_)
  refine lv_iload_n hx hb gX12_hasOwn_3.1 rfl (lv_at1 hl) ?_
  refine lv_iconst (v := 2) hx hb gX12_hasOwn_3.2.1 (by decide) ?_
  refine lv_icmp_ne (tgt := 93) hx hb gX12_hasOwn_3.2.2.1 (by decide) (fun _ => ?_) (fun c9 => absurd c9 (by decide))
  refine lv_iconst (v := 0) hx hb gX12_hasOwn_3.2.2.2.2.2.1 (by decide) ?_
  refine toQ hQ0 ?_
  exact RP (v := 0) hC (rfl) (by decide +kernel) gX12_hasOwn_3.2.2.2.2.2.2.1
def K_m_hasOwn60 (l : Launch) (G : GG) : Prop := MP l G yX12_hasOwn cX12_hasOwn 2 (some .boolean) 1 [.int 6, .int 0] [] (fun r : Int32 => r = 0)
set_option maxHeartbeats 4000000 in
set_option maxRecDepth 100000 in
theorem m_hasOwn60 (l : Launch) (G : GG) : K_m_hasOwn60 l G := by
  refine MP.start (by decide +kernel) (Nat.le_of_ble_eq_true rfl) ?_
  intro p e s m below meth c ls hC hK hP hD hl
  refine absQ (fun Q0 hQ0 => ?_)
  have hl : lv_has ls 2 [(0, .int 6), (1, .int 0)] := hl
  refine Kan8 hC (fun hx hb hr hml hB hown hlocks hnm => ?_)
  refine lv_iload_n hx hb gX12_hasOwn_0.1 rfl (lv_at0 hl) ?_
  refine lv_tableOut (tgt := 95) hx hb gX12_hasOwn_0.2.1 (by decide) (by decide) ?_
  refine lv_iload_n hx hb gX12_hasOwn_3.2.2.2.2.2.2.2.1 rfl (lv_at1 hl) ?_
  refine lv_iconst (v := 3) hx hb gX12_hasOwn_3.2.2.2.2.2.2.2.2.1 (by decide) ?_
  refine lv_icmp_ne (tgt := 104) hx hb gX12_hasOwn_3.2.2.2.2.2.2.2.2.2 (by decide) (fun _ => ?_) (fun c9 => absurd c9 (by decide))
  refine lv_iconst (v := 0) hx hb gX12_hasOwn_4.2.2.1 (by decide) ?_
  refine toQ hQ0 ?_
  exact RP (v := 0) hC (rfl) (by decide +kernel) gX12_hasOwn_4.2.2.2
def K_m_hasOwn61 (l : Launch) (G : GG) : Prop := MP l G yX12_hasOwn cX12_hasOwn 2 (some .boolean) 1 [.int 6, .int 1] [] (fun r : Int32 => r = 0)
set_option maxHeartbeats 4000000 in
set_option maxRecDepth 100000 in
theorem m_hasOwn61 (l : Launch) (G : GG) : K_m_hasOwn61 l G := by
  refine MP.start (by decide +kernel) (Nat.le_of_ble_eq_true rfl) ?_
  intro p e s m below meth c ls hC hK hP hD hl
  refine absQ (fun Q0 hQ0 => ?_)
  have hl : lv_has ls 2 [(0, .int 6), (1, .int 1)] := hl
  refine Kan8 hC (fun hx hb hr hml hB hown hlocks hnm => ?_)
  refine lv_iload_n hx hb gX12_hasOwn_0.1 rfl (lv_at0 hl) ?_
  refine lv_tableOut (tgt := 95) hx hb gX12_hasOwn_0.2.1 (by decide) (by decide) ?_
  refine lv_iload_n hx hb gX12_hasOwn_3.2.2.2.2.2.2.2.1 rfl (lv_at1 hl) ?_
  refine lv_iconst (v := 3) hx hb gX12_hasOwn_3.2.2.2.2.2.2.2.2.1 (by decide) ?_
  refine lv_icmp_ne (tgt := 104) hx hb gX12_hasOwn_3.2.2.2.2.2.2.2.2.2 (by decide) (fun _ => ?_) (fun c9 => absurd c9 (by decide))
  refine lv_iconst (v := 0) hx hb gX12_hasOwn_4.2.2.1 (by decide) ?_
  refine toQ hQ0 ?_
  exact RP (v := 0) hC (rfl) (by decide +kernel) gX12_hasOwn_4.2.2.2
def K_m_hasOwn62 (l : Launch) (G : GG) : Prop := MP l G yX12_hasOwn cX12_hasOwn 2 (some .boolean) 1 [.int 6, .int 2] [] (fun r : Int32 => r = 0)
set_option maxHeartbeats 4000000 in
set_option maxRecDepth 100000 in
theorem m_hasOwn62 (l : Launch) (G : GG) : K_m_hasOwn62 l G := by
  refine MP.start (by decide +kernel) (Nat.le_of_ble_eq_true rfl) ?_
  intro p e s m below meth c ls hC hK hP hD hl
  refine absQ (fun Q0 hQ0 => ?_)
  have hl : lv_has ls 2 [(0, .int 6), (1, .int 2)] := hl
  refine Kan8 hC (fun hx hb hr hml hB hown hlocks hnm => ?_)
  refine lv_iload_n hx hb gX12_hasOwn_0.1 rfl (lv_at0 hl) ?_
  refine lv_tableOut (tgt := 95) hx hb gX12_hasOwn_0.2.1 (by decide) (by decide) ?_
  refine lv_iload_n hx hb gX12_hasOwn_3.2.2.2.2.2.2.2.1 rfl (lv_at1 hl) ?_
  refine lv_iconst (v := 3) hx hb gX12_hasOwn_3.2.2.2.2.2.2.2.2.1 (by decide) ?_
  refine lv_icmp_ne (tgt := 104) hx hb gX12_hasOwn_3.2.2.2.2.2.2.2.2.2 (by decide) (fun _ => ?_) (fun c9 => absurd c9 (by decide))
  refine lv_iconst (v := 0) hx hb gX12_hasOwn_4.2.2.1 (by decide) ?_
  refine toQ hQ0 ?_
  exact RP (v := 0) hC (rfl) (by decide +kernel) gX12_hasOwn_4.2.2.2
def K_m_hasOwn63 (l : Launch) (G : GG) : Prop := MP l G yX12_hasOwn cX12_hasOwn 2 (some .boolean) 1 [.int 6, .int 3] [] (fun r : Int32 => r = 1)
set_option maxHeartbeats 4000000 in
set_option maxRecDepth 100000 in
theorem m_hasOwn63 (l : Launch) (G : GG) : K_m_hasOwn63 l G := by
  refine MP.start (by decide +kernel) (Nat.le_of_ble_eq_true rfl) ?_
  intro p e s m below meth c ls hC hK hP hD hl
  refine absQ (fun Q0 hQ0 => ?_)
  have hl : lv_has ls 2 [(0, .int 6), (1, .int 3)] := hl
  refine Kan8 hC (fun hx hb hr hml hB hown hlocks hnm => ?_)
  refine lv_iload_n hx hb gX12_hasOwn_0.1 rfl (lv_at0 hl) ?_
  refine lv_tableOut (tgt := 95) hx hb gX12_hasOwn_0.2.1 (by decide) (by decide) ?_
  refine lv_iload_n hx hb gX12_hasOwn_3.2.2.2.2.2.2.2.1 rfl (lv_at1 hl) ?_
  refine lv_iconst (v := 3) hx hb gX12_hasOwn_3.2.2.2.2.2.2.2.2.1 (by decide) ?_
  refine lv_icmp_ne (tgt := 104) hx hb gX12_hasOwn_3.2.2.2.2.2.2.2.2.2 (by decide) (fun c9 => absurd (by decide) c9) (fun _ => ?_)
  refine lv_iconst (v := 1) hx hb gX12_hasOwn_4.1 (by decide) ?_
  refine lv_goto (tgt := 105) hx hb gX12_hasOwn_4.2.1 (by decide) ?_
  refine toQ hQ0 ?_
  exact RP (v := 1) hC (rfl) (by decide +kernel) gX12_hasOwn_4.2.2.2
def K_m_kindOnX (l : Launch) (G : GG) (kq : Nat) (k8 : Nat) (k9 : Nat) (h0 : Nat) (jt : Nat) (nw : Nat) (nk : Nat) (mhasKept : Int32) (nt : Nat) (mtaped : Int32) (nr : Nat) (mrowMany : Int32) (mroundOf : Int32) (mroundFrom : Int32) (mouts : Int32) (nm : Nat) (mfromHour : Int32) (mtoHour : Int32) (ns : Nat) (mfrom : Int32) (mto : Int32) (msort : Int32) (misFault : Int32) (mdeep : Int32) (mcoded : Int32) (mlines : Int32) (nl : Nat) (nc : Nat) (nF : Nat) (np : Nat) (ntr : Nat) (nb : Nat) (mbestCost : Int32) (nso : Nat) (nsi : Nat) (nit : Nat) (nsh : Nat) (nsf : Nat) (nss : Nat) (nrc : Nat) (mtraced : Int32) (mdealer : Int32) (mnumber : Int32) (mwhose : Int32) (msize : Int32) (misParted : Int32) (fnw : Nat → Int32) (fnsh : Nat → Int32) (fnsf : Nat → Int32) : Prop := MP l G yX12_kindOn cX12_kindOn 4 (some .int) 3 [.ref h0, .int (nI jt)] [(h0, oX12 nw nk mhasKept nt mtaped nr mrowMany mroundOf mroundFrom mouts nm mfromHour mtoHour ns mfrom mto msort misFault mdeep mcoded mlines nl nc nF np ntr nb mbestCost nso nsi nit nsh nsf nss nrc mtraced mdealer mnumber mwhose msize misParted), (nw, iA G 1662 fnw), (nsh, iA G 4 fnsh), (nsf, iA G 4 fnsf)] (fun r : Int32 => (r = (-1) ∧ KOM (fnsh jt) (fnsf jt) kq k8 k9 (shf fnw 32) (shf fnw 1424) = (-1)) ∨ (r = 1 ∧ KOM (fnsh jt) (fnsf jt) kq k8 k9 (shf fnw 32) (shf fnw 1424) = 1) ∨ (r = 2 ∧ KOM (fnsh jt) (fnsf jt) kq k8 k9 (shf fnw 32) (shf fnw 1424) = 2) ∨ (r = 3 ∧ KOM (fnsh jt) (fnsf jt) kq k8 k9 (shf fnw 32) (shf fnw 1424) = 3) ∨ (r = 4 ∧ KOM (fnsh jt) (fnsf jt) kq k8 k9 (shf fnw 32) (shf fnw 1424) = 4) ∨ (r = 5 ∧ KOM (fnsh jt) (fnsf jt) kq k8 k9 (shf fnw 32) (shf fnw 1424) = 5) ∨ (r = 6 ∧ KOM (fnsh jt) (fnsf jt) kq k8 k9 (shf fnw 32) (shf fnw 1424) = 6))
set_option maxHeartbeats 4000000 in
set_option maxRecDepth 100000 in
theorem m_kindOnX (l : Launch) (G : GG) (kq : Nat) (k8 : Nat) (k9 : Nat) (h0 : Nat) (jt : Nat) (nw : Nat) (nk : Nat) (mhasKept : Int32) (nt : Nat) (mtaped : Int32) (nr : Nat) (mrowMany : Int32) (mroundOf : Int32) (mroundFrom : Int32) (mouts : Int32) (nm : Nat) (mfromHour : Int32) (mtoHour : Int32) (ns : Nat) (mfrom : Int32) (mto : Int32) (msort : Int32) (misFault : Int32) (mdeep : Int32) (mcoded : Int32) (mlines : Int32) (nl : Nat) (nc : Nat) (nF : Nat) (np : Nat) (ntr : Nat) (nb : Nat) (mbestCost : Int32) (nso : Nat) (nsi : Nat) (nit : Nat) (nsh : Nat) (nsf : Nat) (nss : Nat) (nrc : Nat) (mtraced : Int32) (mdealer : Int32) (mnumber : Int32) (mwhose : Int32) (msize : Int32) (misParted : Int32) (fnw : Nat → Int32) (fnsh : Nat → Int32) (fnsf : Nat → Int32) (hjt : jt < 4) (ekq : fnw 5 = nI kq) (hkq : kq ≤ 12) (ek8 : fnw 8 = nI k8) (hk8 : k8 ≤ 16) (ek9 : fnw 9 = nI k9) (hk9 : k9 ≤ 12) (hN : NI fnw) : K_m_kindOnX l G kq k8 k9 h0 jt nw nk mhasKept nt mtaped nr mrowMany mroundOf mroundFrom mouts nm mfromHour mtoHour ns mfrom mto msort misFault mdeep mcoded mlines nl nc nF np ntr nb mbestCost nso nsi nit nsh nsf nss nrc mtraced mdealer mnumber mwhose msize misParted fnw fnsh fnsf := by
  refine MP.start (by decide +kernel) (Nat.le_of_ble_eq_true rfl) ?_
  intro p e s m below meth c ls hC hK hP hD hl
  refine absQ (fun Q0 hQ0 => ?_)
  have hl : lv_has ls 4 [(0, .ref h0), (1, .int (nI jt))] := hl
  refine Kan8 hC (fun hx hb hr hml hB hown hlocks hnm => ?_)
  refine lv_aload_n hx hb gX12_kindOn_0.1 rfl (lv_at0 hl) ?_
  refine gf_X12_75 hC rfl hK hP 0 rfl rfl gX12_kindOn_0.2.1 ?_
  refine lv_iload_n hx hb gX12_kindOn_0.2.2.1 rfl (lv_at1 hl) ?_
  refine aldN hC hK hP 3 rfl (k := jt) (by omega) (Nat.le_of_ble_eq_true rfl) (v := fnsf jt) rfl gX12_kindOn_0.2.2.2.1 ?_
  refine lv_istore_n (lv' := [(2, .int (fnsf jt)), (0, .ref h0), (1, .int (nI jt))]) hx hb gX12_kindOn_0.2.2.2.2.1 rfl hl (by decide) rfl (fun ls hl => ?_)
  refine lv_aload_n hx hb gX12_kindOn_0.2.2.2.2.2.1 rfl (lv_at1 hl) ?_
  refine gf_X12_72 hC rfl hK hP 0 rfl rfl gX12_kindOn_0.2.2.2.2.2.2.1 ?_
  refine lv_iload_n hx hb gX12_kindOn_0.2.2.2.2.2.2.2.1 rfl (lv_at2 hl) ?_
  refine aldN hC hK hP 2 rfl (k := jt) (by omega) (Nat.le_of_ble_eq_true rfl) (v := fnsh jt) rfl gX12_kindOn_0.2.2.2.2.2.2.2.2.1 ?_
  by_cases c_13_5451 : fnsh jt = 1
  · refine lv_tableIn (tgt := 40) hx hb gX12_kindOn_0.2.2.2.2.2.2.2.2.2 (by rw [c_13_5451]; decide) (by rw [c_13_5451]; decide) (by rw [c_13_5451]; rfl) (by decide) ?_
    refine lv_aload_n hx hb gX12_kindOn_1.1 rfl (lv_at1 hl) ?_
    refine lv_iload_n hx hb gX12_kindOn_1.2.1 rfl (lv_at0 hl) ?_
    refine lv_iconst (v := 5) hx hb gX12_kindOn_1.2.2.1 (by decide) ?_
    refine pV hC hK hl hP hD (m_is l G kq h0 (fnsf jt) 5 nw nk mhasKept nt mtaped nr mrowMany mroundOf mroundFrom mouts nm mfromHour mtoHour ns mfrom mto msort misFault mdeep mcoded mlines nl nc nF np ntr nb mbestCost nso nsi nit nsh nsf nss nrc mtraced mdealer mnumber mwhose msize misParted fnw (by omega) (ekq) (by omega)) si_X12_120 [0, 1] sm_0_1 fm_0_1 nd_0_1 rfl rfl rfl rfl rfl (Nat.le_of_ble_eq_true rfl) rm_3_2_3 ⟨by first | exact Nat.le_of_ble_eq_true rfl | exact Nat.zero_le _, by first | exact Nat.le_of_ble_eq_true rfl | exact Nat.zero_le _⟩ gX12_kindOn_1.2.2.2.1 (Kors (Keqa fun a5453 => ?_) (Keqa fun a5453 => ?_))
    · refine lv_if_eq (tgt := 73) hx hb gX12_kindOn_1.2.2.2.2.1 (by decide) (fun c9 => absurd c9 (by decide)) (fun _ => ?_)
      refine lv_aload_n hx hb gX12_kindOn_1.2.2.2.2.2.1 rfl (lv_at1 hl) ?_
      refine lv_iload_n hx hb gX12_kindOn_1.2.2.2.2.2.2.1 rfl (lv_at0 hl) ?_
      obtain ⟨jn5454, hjn5454, ekjn5454⟩ := Hs_nat (by omega) a5453
      refine eqi (x1 := nI jn5454) ekjn5454 ?_
      refine lv_iconst (v := 1) hx hb gX12_kindOn_1.2.2.2.2.2.2.2.1 (by decide) ?_
      refine pV hC hK hl hP hD (m_paper l G h0 jn5454 1 nw nk mhasKept nt mtaped nr mrowMany mroundOf mroundFrom mouts nm mfromHour mtoHour ns mfrom mto msort misFault mdeep mcoded mlines nl nc nF np ntr nb mbestCost nso nsi nit nsh nsf nss nrc mtraced mdealer mnumber mwhose msize misParted fnw (by omega) (by omega)) si_X12_88 [0, 1] sm_0_1 fm_0_1 nd_0_1 rfl rfl rfl rfl rfl (Nat.le_of_ble_eq_true rfl) rm_3_1_3 ⟨by first | exact Nat.le_of_ble_eq_true rfl | exact Nat.zero_le _, by first | exact Nat.le_of_ble_eq_true rfl | exact Nat.zero_le _⟩ gX12_kindOn_1.2.2.2.2.2.2.2.2.1 (Keqr ?_)
      refine lv_iconst (v := 1) hx hb gX12_kindOn_1.2.2.2.2.2.2.2.2.2 (by decide) ?_
      refine lv_aload_n hx hb gX12_kindOn_2.1 rfl (lv_at1 hl) ?_
      refine lv_iload_n hx hb gX12_kindOn_2.2.1 rfl (lv_at0 hl) ?_
      refine eqi (x1 := nI jn5454) ekjn5454 ?_
      refine lv_iconst (v := 0) hx hb gX12_kindOn_2.2.2.1 (by decide) ?_
      refine pV hC hK hl hP hD (m_paper l G h0 jn5454 0 nw nk mhasKept nt mtaped nr mrowMany mroundOf mroundFrom mouts nm mfromHour mtoHour ns mfrom mto msort misFault mdeep mcoded mlines nl nc nF np ntr nb mbestCost nso nsi nit nsh nsf nss nrc mtraced mdealer mnumber mwhose msize misParted fnw (by omega) (by omega)) si_X12_88 [0, 1] sm_0_1 fm_0_1 nd_0_1 rfl rfl rfl rfl rfl (Nat.le_of_ble_eq_true rfl) rm_3_1_3 ⟨by first | exact Nat.le_of_ble_eq_true rfl | exact Nat.zero_le _, by first | exact Nat.le_of_ble_eq_true rfl | exact Nat.zero_le _⟩ gX12_kindOn_2.2.2.2.1 (Keqr ?_)
      refine lv_ishl hx hb gX12_kindOn_2.2.2.2.2.1 ?_
      refine lv_iconst (v := (-1)) hx hb gX12_kindOn_2.2.2.2.2.2.1 (by decide) ?_
      refine lv_ixor hx hb gX12_kindOn_2.2.2.2.2.2.2.1 ?_
      refine lv_iand hx hb gX12_kindOn_2.2.2.2.2.2.2.2.1 ?_
      refine lv_if_eq (tgt := 73) hx hb gX12_kindOn_2.2.2.2.2.2.2.2.2.1 (by decide) (fun c_66_5459 => ?_) (fun c_66_5459 => ?_)
      · refine lv_iconst (v := 0) hx hb gX12_kindOn_3.2.1 (by decide) ?_
        refine lv_istore_n (lv' := [(3, .int 0), (2, .int (fnsf jt)), (0, .ref h0), (1, .int (nI jt))]) hx hb gX12_kindOn_3.2.2.1 rfl hl (by decide) rfl (fun ls hl => ?_)
        refine lv_aload_n hx hb gX12_kindOn_3.2.2.2.1 rfl (lv_at2 hl) ?_
        refine lv_iload_n hx hb gX12_kindOn_3.2.2.2.2.1 rfl (lv_at1 hl) ?_
        refine lv_iconst (v := 5) hx hb gX12_kindOn_3.2.2.2.2.2.1 (by decide) ?_
        refine pV hC hK hl hP hD (m_is l G kq h0 (fnsf jt) 5 nw nk mhasKept nt mtaped nr mrowMany mroundOf mroundFrom mouts nm mfromHour mtoHour ns mfrom mto msort misFault mdeep mcoded mlines nl nc nF np ntr nb mbestCost nso nsi nit nsh nsf nss nrc mtraced mdealer mnumber mwhose msize misParted fnw (by omega) (ekq) (by omega)) si_X12_120 [0, 1] sm_0_1 fm_0_1 nd_0_1 rfl rfl rfl rfl rfl (Nat.le_of_ble_eq_true rfl) rm_3_2_3 ⟨by first | exact Nat.le_of_ble_eq_true rfl | exact Nat.zero_le _, by first | exact Nat.le_of_ble_eq_true rfl | exact Nat.zero_le _⟩ gX12_kindOn_3.2.2.2.2.2.2.1 (Kors (Keqa fun a5461 => ?_) (Keqa fun a5461 => ?_))
        · refine lv_if_ne (tgt := 88) hx hb gX12_kindOn_3.2.2.2.2.2.2.2.1 (by decide) (fun _ => ?_) (fun c9 => absurd c9 (by decide))
          refine lv_iload_n hx hb gX12_kindOn_4.1 rfl (lv_at0 hl) ?_
          refine lv_if_ne (tgt := 96) hx hb gX12_kindOn_4.2.1 (by decide) (fun c9 => absurd (by decide) c9) (fun _ => ?_)
          refine lv_iconst (v := 2) hx hb gX12_kindOn_4.2.2.1 (by decide) ?_
          refine lv_goto (tgt := 110) hx hb gX12_kindOn_4.2.2.2.1 (by decide) ?_
          refine toQ hQ0 ?_
          exact RP (v := 2) hC (Or.inr (Or.inr (Or.inl (⟨rfl, (by unfold KOM; simp only [ifc_t hjt, ifc_t ekq, ifc_t hkq, ifc_t ek8, ifc_t hk8, ifc_t ek9, ifc_t hk9, ifc_t hN, ifc_t c_13_5451, ifc_t a5461, ifc_t c_66_5459, ifc_f (q := fnsh jt = 2) (by rw [c_13_5451]; decide), ifc_f (q := fnsh jt = 3) (by rw [c_13_5451]; decide)]; unfold PKn; rw [show shf fnw 32 ((fnsf jt).toNatClampNeg * 6 + 1) = fnw (32 + 6 * jn5454 + 1) from congrArg fnw (by rw [ekjn5454, nI_clamp (n := jn5454) (by omega)]; omega), show shf fnw 32 ((fnsf jt).toNatClampNeg * 6 + 0) = fnw (32 + 6 * jn5454 + 0) from congrArg fnw (by rw [ekjn5454, nI_clamp (n := jn5454) (by omega)]; omega), ifn_t c_66_5459]; first | done | rfl)⟩)))) rfl gX12_kindOn_5.2.2.1
        · exact absurd a5453 a5461
      · refine lv_iconst (v := 1) hx hb gX12_kindOn_2.2.2.2.2.2.2.2.2.2 (by decide) ?_
        refine lv_goto (tgt := 74) hx hb gX12_kindOn_3.1 (by decide) ?_
        refine lv_istore_n (lv' := [(3, .int 1), (2, .int (fnsf jt)), (0, .ref h0), (1, .int (nI jt))]) hx hb gX12_kindOn_3.2.2.1 rfl hl (by decide) rfl (fun ls hl => ?_)
        refine lv_aload_n hx hb gX12_kindOn_3.2.2.2.1 rfl (lv_at2 hl) ?_
        refine lv_iload_n hx hb gX12_kindOn_3.2.2.2.2.1 rfl (lv_at1 hl) ?_
        refine lv_iconst (v := 5) hx hb gX12_kindOn_3.2.2.2.2.2.1 (by decide) ?_
        refine pV hC hK hl hP hD (m_is l G kq h0 (fnsf jt) 5 nw nk mhasKept nt mtaped nr mrowMany mroundOf mroundFrom mouts nm mfromHour mtoHour ns mfrom mto msort misFault mdeep mcoded mlines nl nc nF np ntr nb mbestCost nso nsi nit nsh nsf nss nrc mtraced mdealer mnumber mwhose msize misParted fnw (by omega) (ekq) (by omega)) si_X12_120 [0, 1] sm_0_1 fm_0_1 nd_0_1 rfl rfl rfl rfl rfl (Nat.le_of_ble_eq_true rfl) rm_3_2_3 ⟨by first | exact Nat.le_of_ble_eq_true rfl | exact Nat.zero_le _, by first | exact Nat.le_of_ble_eq_true rfl | exact Nat.zero_le _⟩ gX12_kindOn_3.2.2.2.2.2.2.1 (Kors (Keqa fun a5463 => ?_) (Keqa fun a5463 => ?_))
        · refine lv_if_ne (tgt := 88) hx hb gX12_kindOn_3.2.2.2.2.2.2.2.1 (by decide) (fun _ => ?_) (fun c9 => absurd c9 (by decide))
          refine lv_iload_n hx hb gX12_kindOn_4.1 rfl (lv_at0 hl) ?_
          refine lv_if_ne (tgt := 96) hx hb gX12_kindOn_4.2.1 (by decide) (fun _ => ?_) (fun c9 => absurd c9 (by decide))
          refine lv_aload_n hx hb gX12_kindOn_4.2.2.2.2.1 rfl (lv_at2 hl) ?_
          refine lv_iload_n hx hb gX12_kindOn_4.2.2.2.2.2.1 rfl (lv_at1 hl) ?_
          refine eqi (x1 := nI jn5454) ekjn5454 ?_
          refine lv_iconst (v := 3) hx hb gX12_kindOn_4.2.2.2.2.2.2.1 (by decide) ?_
          refine pV hC hK hl hP hD (m_paper l G h0 jn5454 3 nw nk mhasKept nt mtaped nr mrowMany mroundOf mroundFrom mouts nm mfromHour mtoHour ns mfrom mto msort misFault mdeep mcoded mlines nl nc nF np ntr nb mbestCost nso nsi nit nsh nsf nss nrc mtraced mdealer mnumber mwhose msize misParted fnw (by omega) (by omega)) si_X12_88 [0, 1] sm_0_1 fm_0_1 nd_0_1 rfl rfl rfl rfl rfl (Nat.le_of_ble_eq_true rfl) rm_3_1_3 ⟨by first | exact Nat.le_of_ble_eq_true rfl | exact Nat.zero_le _, by first | exact Nat.le_of_ble_eq_true rfl | exact Nat.zero_le _⟩ gX12_kindOn_4.2.2.2.2.2.2.2.1 (Keqr ?_)
          refine lv_if_le (tgt := 109) hx hb gX12_kindOn_4.2.2.2.2.2.2.2.2.1 (by decide) (fun c_102_5466 => ?_) (fun c_102_5466 => ?_)
          · refine lv_iconst (v := 1) hx hb gX12_kindOn_5.2.1 (by decide) ?_
            refine toQ hQ0 ?_
            exact RP (v := 1) hC (Or.inr (Or.inl (⟨rfl, (by unfold KOM; simp only [ifc_t hjt, ifc_t ekq, ifc_t hkq, ifc_t ek8, ifc_t hk8, ifc_t ek9, ifc_t hk9, ifc_t hN, ifc_t c_13_5451, ifc_t a5463, ifc_f c_66_5459, ifc_t c_102_5466, ifc_f (q := fnsh jt = 2) (by rw [c_13_5451]; decide), ifc_f (q := fnsh jt = 3) (by rw [c_13_5451]; decide)]; unfold PKn; rw [show shf fnw 32 ((fnsf jt).toNatClampNeg * 6 + 1) = fnw (32 + 6 * jn5454 + 1) from congrArg fnw (by rw [ekjn5454, nI_clamp (n := jn5454) (by omega)]; omega), show shf fnw 32 ((fnsf jt).toNatClampNeg * 6 + 0) = fnw (32 + 6 * jn5454 + 0) from congrArg fnw (by rw [ekjn5454, nI_clamp (n := jn5454) (by omega)]; omega), show shf fnw 32 ((fnsf jt).toNatClampNeg * 6 + 3) = fnw (32 + 6 * jn5454 + 3) from congrArg fnw (by rw [ekjn5454, nI_clamp (n := jn5454) (by omega)]; omega), ifn_f c_66_5459, ifn_f (Int32.not_lt.mpr c_102_5466)]; first | done | rfl)⟩))) rfl gX12_kindOn_5.2.2.1
          · refine lv_iconst (v := 3) hx hb gX12_kindOn_4.2.2.2.2.2.2.2.2.2 (by decide) ?_
            refine lv_goto (tgt := 110) hx hb gX12_kindOn_5.1 (by decide) ?_
            refine toQ hQ0 ?_
            exact RP (v := 3) hC (Or.inr (Or.inr (Or.inr (Or.inl (⟨rfl, (by unfold KOM; simp only [ifc_t hjt, ifc_t ekq, ifc_t hkq, ifc_t ek8, ifc_t hk8, ifc_t ek9, ifc_t hk9, ifc_t hN, ifc_t c_13_5451, ifc_t a5463, ifc_f c_66_5459, ifc_f c_102_5466, ifc_f (q := fnsh jt = 2) (by rw [c_13_5451]; decide), ifc_f (q := fnsh jt = 3) (by rw [c_13_5451]; decide)]; unfold PKn; rw [show shf fnw 32 ((fnsf jt).toNatClampNeg * 6 + 1) = fnw (32 + 6 * jn5454 + 1) from congrArg fnw (by rw [ekjn5454, nI_clamp (n := jn5454) (by omega)]; omega), show shf fnw 32 ((fnsf jt).toNatClampNeg * 6 + 0) = fnw (32 + 6 * jn5454 + 0) from congrArg fnw (by rw [ekjn5454, nI_clamp (n := jn5454) (by omega)]; omega), show shf fnw 32 ((fnsf jt).toNatClampNeg * 6 + 3) = fnw (32 + 6 * jn5454 + 3) from congrArg fnw (by rw [ekjn5454, nI_clamp (n := jn5454) (by omega)]; omega), ifn_f c_66_5459, ifn_t (Int32.not_le.mp c_102_5466)]; first | done | rfl)⟩))))) rfl gX12_kindOn_5.2.2.1
        · exact absurd a5453 a5463
    · refine lv_if_eq (tgt := 73) hx hb gX12_kindOn_1.2.2.2.2.1 (by decide) (fun _ => ?_) (fun c9 => absurd (by decide) c9)
      refine lv_iconst (v := 0) hx hb gX12_kindOn_3.2.1 (by decide) ?_
      refine lv_istore_n (lv' := [(3, .int 0), (2, .int (fnsf jt)), (0, .ref h0), (1, .int (nI jt))]) hx hb gX12_kindOn_3.2.2.1 rfl hl (by decide) rfl (fun ls hl => ?_)
      refine lv_aload_n hx hb gX12_kindOn_3.2.2.2.1 rfl (lv_at2 hl) ?_
      refine lv_iload_n hx hb gX12_kindOn_3.2.2.2.2.1 rfl (lv_at1 hl) ?_
      refine lv_iconst (v := 5) hx hb gX12_kindOn_3.2.2.2.2.2.1 (by decide) ?_
      refine pV hC hK hl hP hD (m_is l G kq h0 (fnsf jt) 5 nw nk mhasKept nt mtaped nr mrowMany mroundOf mroundFrom mouts nm mfromHour mtoHour ns mfrom mto msort misFault mdeep mcoded mlines nl nc nF np ntr nb mbestCost nso nsi nit nsh nsf nss nrc mtraced mdealer mnumber mwhose msize misParted fnw (by omega) (ekq) (by omega)) si_X12_120 [0, 1] sm_0_1 fm_0_1 nd_0_1 rfl rfl rfl rfl rfl (Nat.le_of_ble_eq_true rfl) rm_3_2_3 ⟨by first | exact Nat.le_of_ble_eq_true rfl | exact Nat.zero_le _, by first | exact Nat.le_of_ble_eq_true rfl | exact Nat.zero_le _⟩ gX12_kindOn_3.2.2.2.2.2.2.1 (Kors (Keqa fun a5468 => ?_) (Keqa fun a5468 => ?_))
      · exact absurd a5468 a5453
      · refine lv_if_ne (tgt := 88) hx hb gX12_kindOn_3.2.2.2.2.2.2.2.1 (by decide) (fun c9 => absurd (by decide) c9) (fun _ => ?_)
        refine lv_iconst (v := (-1)) hx hb gX12_kindOn_3.2.2.2.2.2.2.2.2.1 (by decide) ?_
        refine lv_goto (tgt := 110) hx hb gX12_kindOn_3.2.2.2.2.2.2.2.2.2 (by decide) ?_
        refine toQ hQ0 ?_
        exact RP (v := (-1)) hC (Or.inl (⟨rfl, (by unfold KOM; first | (simp only [ifc_t hjt, ifc_t ekq, ifc_t hkq, ifc_t ek8, ifc_t hk8, ifc_t ek9, ifc_t hk9, ifc_t hN, ifc_t c_13_5451, ifc_f a5468, ifc_f (q := fnsh jt = 2) (by rw [c_13_5451]; decide), ifc_f (q := fnsh jt = 3) (by rw [c_13_5451]; decide)]; done) | (simp only [ifc_t hjt, ifc_t ekq, ifc_t hkq, ifc_t ek8, ifc_t hk8, ifc_t ek9, ifc_t hk9, ifc_t hN, ifc_t c_13_5451, ifc_f a5468, ifc_f (q := fnsh jt = 2) (by rw [c_13_5451]; decide), ifc_f (q := fnsh jt = 3) (by rw [c_13_5451]; decide)]; rfl))⟩)) rfl gX12_kindOn_5.2.2.1
  by_cases c_13_5469 : fnsh jt = 2
  · refine lv_tableIn (tgt := 111) hx hb gX12_kindOn_0.2.2.2.2.2.2.2.2.2 (by rw [c_13_5469]; decide) (by rw [c_13_5469]; decide) (by rw [c_13_5469]; rfl) (by decide) ?_
    refine lv_aload_n hx hb gX12_kindOn_5.2.2.2.1 rfl (lv_at1 hl) ?_
    refine lv_iload_n hx hb gX12_kindOn_5.2.2.2.2.1 rfl (lv_at0 hl) ?_
    refine lv_bipush (v := 8) hx hb gX12_kindOn_5.2.2.2.2.2.1 (by decide) ?_
    refine pV hC hK hl hP hD (m_is l G k8 h0 (fnsf jt) 8 nw nk mhasKept nt mtaped nr mrowMany mroundOf mroundFrom mouts nm mfromHour mtoHour ns mfrom mto msort misFault mdeep mcoded mlines nl nc nF np ntr nb mbestCost nso nsi nit nsh nsf nss nrc mtraced mdealer mnumber mwhose msize misParted fnw (by omega) (ek8) (by omega)) si_X12_120 [0, 1] sm_0_1 fm_0_1 nd_0_1 rfl rfl rfl rfl rfl (Nat.le_of_ble_eq_true rfl) rm_3_2_3 ⟨by first | exact Nat.le_of_ble_eq_true rfl | exact Nat.zero_le _, by first | exact Nat.le_of_ble_eq_true rfl | exact Nat.zero_le _⟩ gX12_kindOn_5.2.2.2.2.2.2.1 (Kors (Keqa fun a5471 => ?_) (Keqa fun a5471 => ?_))
    · refine lv_if_ne (tgt := 125) hx hb gX12_kindOn_5.2.2.2.2.2.2.2.1 (by decide) (fun _ => ?_) (fun c9 => absurd c9 (by decide))
      refine lv_aload_n hx hb gX12_kindOn_6.1 rfl (lv_at1 hl) ?_
      refine lv_iload_n hx hb gX12_kindOn_6.2.1 rfl (lv_at0 hl) ?_
      obtain ⟨jn5472, hjn5472, ekjn5472⟩ := Hs_nat (by omega) a5471
      refine eqi (x1 := nI jn5472) ekjn5472 ?_
      refine lv_bipush (v := 6) hx hb gX12_kindOn_6.2.2.1 (by decide) ?_
      refine pV hC hK hl hP hD (m_saying l G h0 jn5472 6 nw nk mhasKept nt mtaped nr mrowMany mroundOf mroundFrom mouts nm mfromHour mtoHour ns mfrom mto msort misFault mdeep mcoded mlines nl nc nF np ntr nb mbestCost nso nsi nit nsh nsf nss nrc mtraced mdealer mnumber mwhose msize misParted fnw (by omega) (by omega)) si_X12_114 [0, 1] sm_0_1 fm_0_1 nd_0_1 rfl rfl rfl rfl rfl (Nat.le_of_ble_eq_true rfl) rm_3_1_3 ⟨by first | exact Nat.le_of_ble_eq_true rfl | exact Nat.zero_le _, by first | exact Nat.le_of_ble_eq_true rfl | exact Nat.zero_le _⟩ gX12_kindOn_6.2.2.2.1 (Keqr ?_)
      refine lv_if_ge (tgt := 139) hx hb gX12_kindOn_6.2.2.2.2.1 (by decide) (fun c_132_5475 => ?_) (fun c_132_5475 => ?_)
      · refine lv_iconst (v := 4) hx hb gX12_kindOn_6.2.2.2.2.2.2.2.1 (by decide) ?_
        refine toQ hQ0 ?_
        exact RP (v := 4) hC (Or.inr (Or.inr (Or.inr (Or.inr (Or.inl (⟨rfl, (by unfold KOM; simp only [ifc_t hjt, ifc_t ekq, ifc_t hkq, ifc_t ek8, ifc_t hk8, ifc_t ek9, ifc_t hk9, ifc_t hN, ifc_f c_13_5451, ifc_t c_13_5469, ifc_t a5471, ifc_t c_132_5475, ifc_f (q := fnsh jt = 1) (by rw [c_13_5469]; decide), ifc_f (q := fnsh jt = 3) (by rw [c_13_5469]; decide)]; unfold SKn; rw [show shf fnw 1424 ((fnsf jt).toNatClampNeg * 8 + 6) = fnw (1424 + 8 * jn5472 + 6) from congrArg fnw (by rw [ekjn5472, nI_clamp (n := jn5472) (by omega)]; omega), ifn_f (Int32.not_lt.mpr c_132_5475)]; first | done | rfl)⟩)))))) rfl gX12_kindOn_6.2.2.2.2.2.2.2.2.1
      · refine lv_iconst (v := 5) hx hb gX12_kindOn_6.2.2.2.2.2.1 (by decide) ?_
        refine lv_goto (tgt := 140) hx hb gX12_kindOn_6.2.2.2.2.2.2.1 (by decide) ?_
        refine toQ hQ0 ?_
        exact RP (v := 5) hC (Or.inr (Or.inr (Or.inr (Or.inr (Or.inr (Or.inl (⟨rfl, (by unfold KOM; simp only [ifc_t hjt, ifc_t ekq, ifc_t hkq, ifc_t ek8, ifc_t hk8, ifc_t ek9, ifc_t hk9, ifc_t hN, ifc_f c_13_5451, ifc_t c_13_5469, ifc_t a5471, ifc_f c_132_5475, ifc_f (q := fnsh jt = 1) (by rw [c_13_5469]; decide), ifc_f (q := fnsh jt = 3) (by rw [c_13_5469]; decide)]; unfold SKn; rw [show shf fnw 1424 ((fnsf jt).toNatClampNeg * 8 + 6) = fnw (1424 + 8 * jn5472 + 6) from congrArg fnw (by rw [ekjn5472, nI_clamp (n := jn5472) (by omega)]; omega), ifn_t (Int32.not_le.mp c_132_5475)]; first | done | rfl)⟩))))))) rfl gX12_kindOn_6.2.2.2.2.2.2.2.2.1
    · refine lv_if_ne (tgt := 125) hx hb gX12_kindOn_5.2.2.2.2.2.2.2.1 (by decide) (fun c9 => absurd (by decide) c9) (fun _ => ?_)
      refine lv_iconst (v := (-1)) hx hb gX12_kindOn_5.2.2.2.2.2.2.2.2.1 (by decide) ?_
      refine lv_goto (tgt := 140) hx hb gX12_kindOn_5.2.2.2.2.2.2.2.2.2 (by decide) ?_
      refine toQ hQ0 ?_
      exact RP (v := (-1)) hC (Or.inl (⟨rfl, (by unfold KOM; first | (simp only [ifc_t hjt, ifc_t ekq, ifc_t hkq, ifc_t ek8, ifc_t hk8, ifc_t ek9, ifc_t hk9, ifc_t hN, ifc_f c_13_5451, ifc_t c_13_5469, ifc_f a5471, ifc_f (q := fnsh jt = 1) (by rw [c_13_5469]; decide), ifc_f (q := fnsh jt = 3) (by rw [c_13_5469]; decide)]; done) | (simp only [ifc_t hjt, ifc_t ekq, ifc_t hkq, ifc_t ek8, ifc_t hk8, ifc_t ek9, ifc_t hk9, ifc_t hN, ifc_f c_13_5451, ifc_t c_13_5469, ifc_f a5471, ifc_f (q := fnsh jt = 1) (by rw [c_13_5469]; decide), ifc_f (q := fnsh jt = 3) (by rw [c_13_5469]; decide)]; rfl))⟩)) rfl gX12_kindOn_6.2.2.2.2.2.2.2.2.1
  by_cases c_13_5476 : fnsh jt = 3
  · refine lv_tableIn (tgt := 141) hx hb gX12_kindOn_0.2.2.2.2.2.2.2.2.2 (by rw [c_13_5476]; decide) (by rw [c_13_5476]; decide) (by rw [c_13_5476]; rfl) (by decide) ?_
    refine lv_aload_n hx hb gX12_kindOn_6.2.2.2.2.2.2.2.2.2 rfl (lv_at1 hl) ?_
    refine lv_iload_n hx hb gX12_kindOn_7.1 rfl (lv_at0 hl) ?_
    refine lv_bipush (v := 9) hx hb gX12_kindOn_7.2.1 (by decide) ?_
    refine pV hC hK hl hP hD (m_is l G k9 h0 (fnsf jt) 9 nw nk mhasKept nt mtaped nr mrowMany mroundOf mroundFrom mouts nm mfromHour mtoHour ns mfrom mto msort misFault mdeep mcoded mlines nl nc nF np ntr nb mbestCost nso nsi nit nsh nsf nss nrc mtraced mdealer mnumber mwhose msize misParted fnw (by omega) (ek9) (by omega)) si_X12_120 [0, 1] sm_0_1 fm_0_1 nd_0_1 rfl rfl rfl rfl rfl (Nat.le_of_ble_eq_true rfl) rm_3_2_3 ⟨by first | exact Nat.le_of_ble_eq_true rfl | exact Nat.zero_le _, by first | exact Nat.le_of_ble_eq_true rfl | exact Nat.zero_le _⟩ gX12_kindOn_7.2.2.1 (Kors (Keqa fun a5478 => ?_) (Keqa fun a5478 => ?_))
    · refine lv_if_eq (tgt := 156) hx hb gX12_kindOn_7.2.2.2.1 (by decide) (fun c9 => absurd c9 (by decide)) (fun _ => ?_)
      refine lv_bipush (v := 6) hx hb gX12_kindOn_7.2.2.2.2.1 (by decide) ?_
      refine lv_goto (tgt := 157) hx hb gX12_kindOn_7.2.2.2.2.2.1 (by decide) ?_
      refine toQ hQ0 ?_
      exact RP (v := 6) hC (Or.inr (Or.inr (Or.inr (Or.inr (Or.inr (Or.inr (⟨rfl, (by unfold KOM; first | (simp only [ifc_t hjt, ifc_t ekq, ifc_t hkq, ifc_t ek8, ifc_t hk8, ifc_t ek9, ifc_t hk9, ifc_t hN, ifc_f c_13_5451, ifc_f c_13_5469, ifc_t c_13_5476, ifc_t a5478, ifc_f (q := fnsh jt = 1) (by rw [c_13_5476]; decide), ifc_f (q := fnsh jt = 2) (by rw [c_13_5476]; decide)]; done) | (simp only [ifc_t hjt, ifc_t ekq, ifc_t hkq, ifc_t ek8, ifc_t hk8, ifc_t ek9, ifc_t hk9, ifc_t hN, ifc_f c_13_5451, ifc_f c_13_5469, ifc_t c_13_5476, ifc_t a5478, ifc_f (q := fnsh jt = 1) (by rw [c_13_5476]; decide), ifc_f (q := fnsh jt = 2) (by rw [c_13_5476]; decide)]; rfl))⟩))))))) rfl gX12_kindOn_7.2.2.2.2.2.2.2.1
    · refine lv_if_eq (tgt := 156) hx hb gX12_kindOn_7.2.2.2.1 (by decide) (fun _ => ?_) (fun c9 => absurd (by decide) c9)
      refine lv_iconst (v := (-1)) hx hb gX12_kindOn_7.2.2.2.2.2.2.1 (by decide) ?_
      refine toQ hQ0 ?_
      exact RP (v := (-1)) hC (Or.inl (⟨rfl, (by unfold KOM; first | (simp only [ifc_t hjt, ifc_t ekq, ifc_t hkq, ifc_t ek8, ifc_t hk8, ifc_t ek9, ifc_t hk9, ifc_t hN, ifc_f c_13_5451, ifc_f c_13_5469, ifc_t c_13_5476, ifc_f a5478, ifc_f (q := fnsh jt = 1) (by rw [c_13_5476]; decide), ifc_f (q := fnsh jt = 2) (by rw [c_13_5476]; decide)]; done) | (simp only [ifc_t hjt, ifc_t ekq, ifc_t hkq, ifc_t ek8, ifc_t hk8, ifc_t ek9, ifc_t hk9, ifc_t hN, ifc_f c_13_5451, ifc_f c_13_5469, ifc_t c_13_5476, ifc_f a5478, ifc_f (q := fnsh jt = 1) (by rw [c_13_5476]; decide), ifc_f (q := fnsh jt = 2) (by rw [c_13_5476]; decide)]; rfl))⟩)) rfl gX12_kindOn_7.2.2.2.2.2.2.2.1
  refine lv_tableOut (tgt := 158) hx hb gX12_kindOn_0.2.2.2.2.2.2.2.2.2 (by have q9 := sw_1_3 (x := fnsh jt); simp only [c_13_5451, c_13_5469, c_13_5476, not_false_eq_true, true_implies] at q9; exact q9) (by decide) ?_
  refine lv_iconst (v := (-1)) hx hb gX12_kindOn_7.2.2.2.2.2.2.2.2.1 (by decide) ?_
  refine toQ hQ0 ?_
  exact RP (v := (-1)) hC (Or.inl (⟨rfl, (by unfold KOM; first | (simp only [ifc_t hjt, ifc_t ekq, ifc_t hkq, ifc_t ek8, ifc_t hk8, ifc_t ek9, ifc_t hk9, ifc_t hN, ifc_f c_13_5451, ifc_f c_13_5469, ifc_f c_13_5476]; done) | (simp only [ifc_t hjt, ifc_t ekq, ifc_t hkq, ifc_t ek8, ifc_t hk8, ifc_t ek9, ifc_t hk9, ifc_t hN, ifc_f c_13_5451, ifc_f c_13_5469, ifc_f c_13_5476]; rfl))⟩)) rfl gX12_kindOn_7.2.2.2.2.2.2.2.2.2
def K_r_taken (l : Launch) (G : GG) (kq : Nat) (k8 : Nat) (k9 : Nat) (h0 : Nat) (x1 : Int32) (x2 : Int32) (nw : Nat) (nk : Nat) (mhasKept : Int32) (nt : Nat) (mtaped : Int32) (nr : Nat) (mrowMany : Int32) (mroundOf : Int32) (mroundFrom : Int32) (mouts : Int32) (nm : Nat) (mfromHour : Int32) (mtoHour : Int32) (ns : Nat) (mfrom : Int32) (mto : Int32) (msort : Int32) (misFault : Int32) (mdeep : Int32) (mcoded : Int32) (mlines : Int32) (nl : Nat) (nc : Nat) (nF : Nat) (np : Nat) (ntr : Nat) (nb : Nat) (mbestCost : Int32) (nso : Nat) (nsi : Nat) (nit : Nat) (nsh : Nat) (nsf : Nat) (nss : Nat) (nrc : Nat) (mtraced : Int32) (mdealer : Int32) (mnumber : Int32) (mwhose : Int32) (msize : Int32) (misParted : Int32) (fnw : Nat → Int32) (fnsh : Nat → Int32) (fnsf : Nat → Int32) (fnss : Nat → Int32) : Prop := MP l G yX12_taken cX12_taken 4 (some .int) 4 [.ref h0, .int x1, .int x2] [(h0, oX12 nw nk mhasKept nt mtaped nr mrowMany mroundOf mroundFrom mouts nm mfromHour mtoHour ns mfrom mto msort misFault mdeep mcoded mlines nl nc nF np ntr nb mbestCost nso nsi nit nsh nsf nss nrc mtraced mdealer mnumber mwhose msize misParted), (nw, iA G 1662 fnw), (nsh, iA G 4 fnsh), (nsf, iA G 4 fnsf), (nss, iA G 4 fnss)] (fun r : Int32 => r = ifc (Wi x1 0 3) (ifc (Wi x2 0 6 ∨ Wi x2 10 14) (ifc (fnsh x1.toNatClampNeg = 4) (ifc (x2 - 10 = fnsf x1.toNatClampNeg) (fnss x1.toNatClampNeg) (-13)) (ifc (KOM (fnsh x1.toNatClampNeg) (fnsf x1.toNatClampNeg) kq k8 k9 (shf fnw 32) (shf fnw 1424) < 0) (-11) (ifc (UNl (KOM (fnsh x1.toNatClampNeg) (fnsf x1.toNatClampNeg) kq k8 k9 (shf fnw 32) (shf fnw 1424)).toNatClampNeg x2) (fnsf x1.toNatClampNeg) (-13)))) (-1)) (-1))
set_option maxHeartbeats 4000000 in
set_option maxRecDepth 100000 in
theorem r_taken (l : Launch) (G : GG) (kq : Nat) (k8 : Nat) (k9 : Nat) (h0 : Nat) (x1 : Int32) (x2 : Int32) (nw : Nat) (nk : Nat) (mhasKept : Int32) (nt : Nat) (mtaped : Int32) (nr : Nat) (mrowMany : Int32) (mroundOf : Int32) (mroundFrom : Int32) (mouts : Int32) (nm : Nat) (mfromHour : Int32) (mtoHour : Int32) (ns : Nat) (mfrom : Int32) (mto : Int32) (msort : Int32) (misFault : Int32) (mdeep : Int32) (mcoded : Int32) (mlines : Int32) (nl : Nat) (nc : Nat) (nF : Nat) (np : Nat) (ntr : Nat) (nb : Nat) (mbestCost : Int32) (nso : Nat) (nsi : Nat) (nit : Nat) (nsh : Nat) (nsf : Nat) (nss : Nat) (nrc : Nat) (mtraced : Int32) (mdealer : Int32) (mnumber : Int32) (mwhose : Int32) (msize : Int32) (misParted : Int32) (fnw : Nat → Int32) (fnsh : Nat → Int32) (fnsf : Nat → Int32) (fnss : Nat → Int32) (ekq : fnw 5 = nI kq) (hkq : kq ≤ 12) (ek8 : fnw 8 = nI k8) (hk8 : k8 ≤ 16) (ek9 : fnw 9 = nI k9) (hk9 : k9 ≤ 12) (hN : NI fnw) : K_r_taken l G kq k8 k9 h0 x1 x2 nw nk mhasKept nt mtaped nr mrowMany mroundOf mroundFrom mouts nm mfromHour mtoHour ns mfrom mto msort misFault mdeep mcoded mlines nl nc nF np ntr nb mbestCost nso nsi nit nsh nsf nss nrc mtraced mdealer mnumber mwhose msize misParted fnw fnsh fnsf fnss := by
  refine MP.start (by decide +kernel) (Nat.le_of_ble_eq_true rfl) ?_
  intro p e s m below meth c ls hC hK hP hD hl
  refine absQ (fun Q0 hQ0 => ?_)
  have hl : lv_has ls 4 [(0, .ref h0), (1, .int x1), (2, .int x2)] := hl
  refine Kan8 hC (fun hx hb hr hml hB hown hlocks hnm => ?_)
  refine lv_iload_n hx hb gX12_taken_0.1 rfl (lv_at1 hl) ?_
  refine pS hC hK hl (m_isFour l G x1) si_X12_336 rfl rfl (Nat.le_of_ble_eq_true rfl) rm_4_2_1 ⟨by first | exact Nat.le_of_ble_eq_true rfl | exact Nat.zero_le _, by first | exact Nat.le_of_ble_eq_true rfl | exact Nat.zero_le _⟩ gX12_taken_0.2.1 (Kors (Keqa fun a5480 => ?_) (Keqa fun a5480 => ?_))
  · refine lv_if_eq (tgt := 28) hx hb gX12_taken_0.2.2.1 (by decide) (fun c9 => absurd c9 (by decide)) (fun _ => ?_)
    refine lv_iload_n hx hb gX12_taken_0.2.2.2.1 rfl (lv_at2 hl) ?_
    refine lv_iconst (v := 0) hx hb gX12_taken_0.2.2.2.2.1 (by decide) ?_
    refine lv_bipush (v := 6) hx hb gX12_taken_0.2.2.2.2.2.1 (by decide) ?_
    refine pS hC hK hl (m_within l G x2 0 6) si_X12_84 rfl rfl (Nat.le_of_ble_eq_true rfl) rm_4_1_3 ⟨by first | exact Nat.le_of_ble_eq_true rfl | exact Nat.zero_le _, by first | exact Nat.le_of_ble_eq_true rfl | exact Nat.zero_le _⟩ gX12_taken_0.2.2.2.2.2.2.1 (Kors (Keqa fun a5482 => ?_) (Keqa fun a5482 => ?_))
    · refine lv_if_ne (tgt := 30) hx hb gX12_taken_0.2.2.2.2.2.2.2.1 (by decide) (fun _ => ?_) (fun c9 => absurd c9 (by decide))
      obtain ⟨jt, hjt, rfl⟩ := Wi_nat (N := 3) (by decide) a5480
      refine lv_aload_n hx hb gX12_taken_1.2.2.2.2.2.1 rfl (lv_at0 hl) ?_
      refine gf_X12_72 hC rfl hK hP 0 rfl rfl gX12_taken_1.2.2.2.2.2.2.1 ?_
      refine lv_iload_n hx hb gX12_taken_1.2.2.2.2.2.2.2.1 rfl (lv_at1 hl) ?_
      refine aldN hC hK hP 2 rfl (k := jt) (by omega) (Nat.le_of_ble_eq_true rfl) (v := fnsh jt) rfl gX12_taken_1.2.2.2.2.2.2.2.2.1 ?_
      refine lv_iconst (v := 4) hx hb gX12_taken_1.2.2.2.2.2.2.2.2.2 (by decide) ?_
      refine lv_icmp_ne (tgt := 65) hx hb gX12_taken_2.1 (by decide) (fun c_37_5483 => ?_) (fun c_37_5483 => ?_)
      · refine lv_aload_n hx hb gX12_taken_3.2.2.2.2.2.2.1 rfl (lv_at0 hl) ?_
        refine lv_iload_n hx hb gX12_taken_3.2.2.2.2.2.2.2.1 rfl (lv_at1 hl) ?_
        refine pV hC hK hl hP hD (m_kindOnX l G kq k8 k9 h0 jt nw nk mhasKept nt mtaped nr mrowMany mroundOf mroundFrom mouts nm mfromHour mtoHour ns mfrom mto msort misFault mdeep mcoded mlines nl nc nF np ntr nb mbestCost nso nsi nit nsh nsf nss nrc mtraced mdealer mnumber mwhose msize misParted fnw fnsh fnsf (by omega) (ekq) (hkq) (ek8) (hk8) (ek9) (hk9) (hN)) si_X12_345 [0, 1, 2, 3] sm_0_1_2_3 fm_0_1_2_3 nd_0_1_2_3 rfl rfl rfl rfl rfl (Nat.le_of_ble_eq_true rfl) rm_4_3_4 ⟨by first | exact Nat.le_of_ble_eq_true rfl | exact Nat.zero_le _, by first | exact Nat.le_of_ble_eq_true rfl | exact Nat.zero_le _⟩ gX12_taken_3.2.2.2.2.2.2.2.2.1 (Kors (Keqa fun a5485 => ?_) (Kors (Keqa fun a5485 => ?_) (Kors (Keqa fun a5485 => ?_) (Kors (Keqa fun a5485 => ?_) (Kors (Keqa fun a5485 => ?_) (Kors (Keqa fun a5485 => ?_) (Keqa fun a5485 => ?_)))))))
        · refine lv_istore_n (lv' := [(3, .int (-1)), (0, .ref h0), (1, .int (nI jt)), (2, .int x2)]) hx hb gX12_taken_3.2.2.2.2.2.2.2.2.2 rfl hl (by decide) rfl (fun ls hl => ?_)
          refine lv_iload_n hx hb gX12_taken_4.1 rfl (lv_at0 hl) ?_
          refine lv_if_ge (tgt := 78) hx hb gX12_taken_4.2.1 (by decide) (fun c9 => absurd c9 (by decide)) (fun _ => ?_)
          refine lv_bipush (v := (-11)) hx hb gX12_taken_4.2.2.1 (by decide) ?_
          refine toQ hQ0 ?_
          exact RP (v := (-11)) hC ((by first | rfl | (simp only [nI_clamp (n := jt) (by omega), ifc_t ekq, ifc_t hkq, ifc_t ek8, ifc_t hk8, ifc_t ek9, ifc_t hk9, ifc_t hN, ifc_t a5480, ifc_t a5482, ifc_f c_37_5483, ifc_t (q := Wi x2 0 6 ∨ Wi x2 10 14) (Or.inl a5482), a5485, ifc_t (q := (-1 : Int32) < 0) (by decide)]; done) | (simp only [nI_clamp (n := jt) (by omega), ifc_t ekq, ifc_t hkq, ifc_t ek8, ifc_t hk8, ifc_t ek9, ifc_t hk9, ifc_t hN, ifc_t a5480, ifc_t a5482, ifc_f c_37_5483, ifc_t (q := Wi x2 0 6 ∨ Wi x2 10 14) (Or.inl a5482), a5485, ifc_t (q := (-1 : Int32) < 0) (by decide)]; rfl))) rfl gX12_taken_4.2.2.2.1
        · refine lv_istore_n (lv' := [(3, .int 1), (0, .ref h0), (1, .int (nI jt)), (2, .int x2)]) hx hb gX12_taken_3.2.2.2.2.2.2.2.2.2 rfl hl (by decide) rfl (fun ls hl => ?_)
          refine lv_iload_n hx hb gX12_taken_4.1 rfl (lv_at0 hl) ?_
          refine lv_if_ge (tgt := 78) hx hb gX12_taken_4.2.1 (by decide) (fun _ => ?_) (fun c9 => absurd (by decide) c9)
          refine lv_iload_n hx hb gX12_taken_4.2.2.2.2.1 rfl (lv_at0 hl) ?_
          refine lv_if_lt (tgt := 95) hx hb gX12_taken_4.2.2.2.2.2.1 (by decide) (fun c9 => absurd c9 (by decide)) (fun _ => ?_)
          refine lv_iload_n hx hb gX12_taken_4.2.2.2.2.2.2.1 rfl (lv_at0 hl) ?_
          refine lv_iload_n hx hb gX12_taken_4.2.2.2.2.2.2.2.1 rfl (lv_at3 hl) ?_
          refine lv_icmp_eq (tgt := 95) hx hb gX12_taken_4.2.2.2.2.2.2.2.2.1 (by decide) (fun c_84_5486 => ?_) (fun c_84_5486 => ?_)
          · refine lv_iload_n hx hb gX12_taken_5.2.2.2.1 rfl (lv_at0 hl) ?_
            refine lv_iload_n hx hb gX12_taken_5.2.2.2.2.1 rfl (lv_at3 hl) ?_
            refine lv_icmp_ne (tgt := 109) hx hb gX12_taken_5.2.2.2.2.2.1 (by decide) (fun c9 => absurd (c_84_5486) c9) (fun _ => ?_)
            refine lv_aload_n hx hb gX12_taken_5.2.2.2.2.2.2.1 rfl (lv_at1 hl) ?_
            refine gf_X12_75 hC rfl hK hP 0 rfl rfl gX12_taken_5.2.2.2.2.2.2.2.1 ?_
            refine lv_iload_n hx hb gX12_taken_5.2.2.2.2.2.2.2.2.1 rfl (lv_at2 hl) ?_
            refine aldN hC hK hP 3 rfl (k := jt) (by omega) (Nat.le_of_ble_eq_true rfl) (v := fnsf jt) rfl gX12_taken_5.2.2.2.2.2.2.2.2.2 ?_
            refine lv_goto (tgt := 111) hx hb gX12_taken_6.1 (by decide) ?_
            refine toQ hQ0 ?_
            exact RP (v := fnsf jt) hC ((by first | rfl | (simp only [nI_clamp (n := jt) (by omega), ifc_t ekq, ifc_t hkq, ifc_t ek8, ifc_t hk8, ifc_t ek9, ifc_t hk9, ifc_t hN, ifc_t a5480, ifc_t a5482, ifc_f c_37_5483, ifc_t c_84_5486, ifc_t (q := Wi x2 0 6 ∨ Wi x2 10 14) (Or.inl a5482), a5485, ifc_f (q := (1 : Int32) < 0) (by decide), ifc_t (q := UNl (1 : Int32).toNatClampNeg x2) (show UNl 1 x2 from Or.inl (c_84_5486.symm))]; done) | (simp only [nI_clamp (n := jt) (by omega), ifc_t ekq, ifc_t hkq, ifc_t ek8, ifc_t hk8, ifc_t ek9, ifc_t hk9, ifc_t hN, ifc_t a5480, ifc_t a5482, ifc_f c_37_5483, ifc_t c_84_5486, ifc_t (q := Wi x2 0 6 ∨ Wi x2 10 14) (Or.inl a5482), a5485, ifc_f (q := (1 : Int32) < 0) (by decide), ifc_t (q := UNl (1 : Int32).toNatClampNeg x2) (show UNl 1 x2 from Or.inl (c_84_5486.symm))]; rfl))) rfl gX12_taken_6.2.2
          · refine lv_iload_n hx hb gX12_taken_4.2.2.2.2.2.2.2.2.2 rfl (lv_at0 hl) ?_
            refine pS hC hK hl (m_above1 l G) si_X12_348 rfl rfl (Nat.le_of_ble_eq_true rfl) rm_4_1_1 ⟨by first | exact Nat.le_of_ble_eq_true rfl | exact Nat.zero_le _, by first | exact Nat.le_of_ble_eq_true rfl | exact Nat.zero_le _⟩ gX12_taken_5.1 (Keqr ?_)
            refine lv_istore_n (lv' := [(3, .int 0), (0, .ref h0), (1, .int (nI jt)), (2, .int x2)]) hx hb gX12_taken_5.2.1 rfl hl (by decide) rfl (fun ls hl => ?_)
            refine lv_goto (tgt := 78) hx hb gX12_taken_5.2.2.1 (by decide) ?_
            refine lv_iload_n hx hb gX12_taken_4.2.2.2.2.1 rfl (lv_at0 hl) ?_
            refine lv_if_lt (tgt := 95) hx hb gX12_taken_4.2.2.2.2.2.1 (by decide) (fun c9 => absurd c9 (by decide)) (fun _ => ?_)
            refine lv_iload_n hx hb gX12_taken_4.2.2.2.2.2.2.1 rfl (lv_at0 hl) ?_
            refine lv_iload_n hx hb gX12_taken_4.2.2.2.2.2.2.2.1 rfl (lv_at3 hl) ?_
            refine lv_icmp_eq (tgt := 95) hx hb gX12_taken_4.2.2.2.2.2.2.2.2.1 (by decide) (fun c_84_5489 => ?_) (fun c_84_5489 => ?_)
            · refine lv_iload_n hx hb gX12_taken_5.2.2.2.1 rfl (lv_at0 hl) ?_
              refine lv_iload_n hx hb gX12_taken_5.2.2.2.2.1 rfl (lv_at3 hl) ?_
              refine lv_icmp_ne (tgt := 109) hx hb gX12_taken_5.2.2.2.2.2.1 (by decide) (fun c9 => absurd (c_84_5489) c9) (fun _ => ?_)
              refine lv_aload_n hx hb gX12_taken_5.2.2.2.2.2.2.1 rfl (lv_at1 hl) ?_
              refine gf_X12_75 hC rfl hK hP 0 rfl rfl gX12_taken_5.2.2.2.2.2.2.2.1 ?_
              refine lv_iload_n hx hb gX12_taken_5.2.2.2.2.2.2.2.2.1 rfl (lv_at2 hl) ?_
              refine aldN hC hK hP 3 rfl (k := jt) (by omega) (Nat.le_of_ble_eq_true rfl) (v := fnsf jt) rfl gX12_taken_5.2.2.2.2.2.2.2.2.2 ?_
              refine lv_goto (tgt := 111) hx hb gX12_taken_6.1 (by decide) ?_
              refine toQ hQ0 ?_
              exact RP (v := fnsf jt) hC ((by first | rfl | (simp only [nI_clamp (n := jt) (by omega), ifc_t ekq, ifc_t hkq, ifc_t ek8, ifc_t hk8, ifc_t ek9, ifc_t hk9, ifc_t hN, ifc_t a5480, ifc_t a5482, ifc_f c_37_5483, ifc_f c_84_5486, ifc_t c_84_5489, ifc_t (q := Wi x2 0 6 ∨ Wi x2 10 14) (Or.inl a5482), a5485, ifc_f (q := (1 : Int32) < 0) (by decide), ifc_t (q := UNl (1 : Int32).toNatClampNeg x2) (show UNl 1 x2 from Or.inr (c_84_5489.symm))]; done) | (simp only [nI_clamp (n := jt) (by omega), ifc_t ekq, ifc_t hkq, ifc_t ek8, ifc_t hk8, ifc_t ek9, ifc_t hk9, ifc_t hN, ifc_t a5480, ifc_t a5482, ifc_f c_37_5483, ifc_f c_84_5486, ifc_t c_84_5489, ifc_t (q := Wi x2 0 6 ∨ Wi x2 10 14) (Or.inl a5482), a5485, ifc_f (q := (1 : Int32) < 0) (by decide), ifc_t (q := UNl (1 : Int32).toNatClampNeg x2) (show UNl 1 x2 from Or.inr (c_84_5489.symm))]; rfl))) rfl gX12_taken_6.2.2
            · refine lv_iload_n hx hb gX12_taken_4.2.2.2.2.2.2.2.2.2 rfl (lv_at0 hl) ?_
              refine pS hC hK hl (m_above0 l G) si_X12_348 rfl rfl (Nat.le_of_ble_eq_true rfl) rm_4_1_1 ⟨by first | exact Nat.le_of_ble_eq_true rfl | exact Nat.zero_le _, by first | exact Nat.le_of_ble_eq_true rfl | exact Nat.zero_le _⟩ gX12_taken_5.1 (Keqr ?_)
              refine lv_istore_n (lv' := [(3, .int (-1)), (0, .ref h0), (1, .int (nI jt)), (2, .int x2)]) hx hb gX12_taken_5.2.1 rfl hl (by decide) rfl (fun ls hl => ?_)
              refine lv_goto (tgt := 78) hx hb gX12_taken_5.2.2.1 (by decide) ?_
              refine lv_iload_n hx hb gX12_taken_4.2.2.2.2.1 rfl (lv_at0 hl) ?_
              refine lv_if_lt (tgt := 95) hx hb gX12_taken_4.2.2.2.2.2.1 (by decide) (fun _ => ?_) (fun c9 => absurd (by decide) c9)
              refine lv_iload_n hx hb gX12_taken_5.2.2.2.1 rfl (lv_at0 hl) ?_
              refine lv_iload_n hx hb gX12_taken_5.2.2.2.2.1 rfl (lv_at3 hl) ?_
              refine lv_icmp_ne (tgt := 109) hx hb gX12_taken_5.2.2.2.2.2.1 (by decide) (fun c_97_5492 => ?_) (fun c_97_5492 => ?_)
              · refine lv_bipush (v := (-13)) hx hb gX12_taken_6.2.1 (by decide) ?_
                refine toQ hQ0 ?_
                exact RP (v := (-13)) hC ((by first | rfl | (simp only [nI_clamp (n := jt) (by omega), ifc_t ekq, ifc_t hkq, ifc_t ek8, ifc_t hk8, ifc_t ek9, ifc_t hk9, ifc_t hN, ifc_t a5480, ifc_t a5482, ifc_f c_37_5483, ifc_f c_84_5486, ifc_f c_84_5489, ifc_f c_97_5492, ifc_t (q := Wi x2 0 6 ∨ Wi x2 10 14) (Or.inl a5482), a5485, ifc_f (q := (1 : Int32) < 0) (by decide), ifc_f (q := UNl (1 : Int32).toNatClampNeg x2) (fun h9 => (show False from by have h7 : x2 = 1 ∨ x2 = 0 := h9; rcases h7 with h8 | h8 <;> (first | exact c_84_5486 h8.symm | exact c_84_5489 h8.symm)))]; done) | (simp only [nI_clamp (n := jt) (by omega), ifc_t ekq, ifc_t hkq, ifc_t ek8, ifc_t hk8, ifc_t ek9, ifc_t hk9, ifc_t hN, ifc_t a5480, ifc_t a5482, ifc_f c_37_5483, ifc_f c_84_5486, ifc_f c_84_5489, ifc_f c_97_5492, ifc_t (q := Wi x2 0 6 ∨ Wi x2 10 14) (Or.inl a5482), a5485, ifc_f (q := (1 : Int32) < 0) (by decide), ifc_f (q := UNl (1 : Int32).toNatClampNeg x2) (fun h9 => (show False from by have h7 : x2 = 1 ∨ x2 = 0 := h9; rcases h7 with h8 | h8 <;> (first | exact c_84_5486 h8.symm | exact c_84_5489 h8.symm)))]; rfl))) rfl gX12_taken_6.2.2
              · refine lv_aload_n hx hb gX12_taken_5.2.2.2.2.2.2.1 rfl (lv_at1 hl) ?_
                refine gf_X12_75 hC rfl hK hP 0 rfl rfl gX12_taken_5.2.2.2.2.2.2.2.1 ?_
                refine lv_iload_n hx hb gX12_taken_5.2.2.2.2.2.2.2.2.1 rfl (lv_at2 hl) ?_
                refine aldN hC hK hP 3 rfl (k := jt) (by omega) (Nat.le_of_ble_eq_true rfl) (v := fnsf jt) rfl gX12_taken_5.2.2.2.2.2.2.2.2.2 ?_
                refine lv_goto (tgt := 111) hx hb gX12_taken_6.1 (by decide) ?_
                refine toQ hQ0 ?_
                exact RP (v := fnsf jt) hC ((absurd a5482 (by rw [← c_97_5492]; unfold Wi; decide))) rfl gX12_taken_6.2.2
        · refine lv_istore_n (lv' := [(3, .int 2), (0, .ref h0), (1, .int (nI jt)), (2, .int x2)]) hx hb gX12_taken_3.2.2.2.2.2.2.2.2.2 rfl hl (by decide) rfl (fun ls hl => ?_)
          refine lv_iload_n hx hb gX12_taken_4.1 rfl (lv_at0 hl) ?_
          refine lv_if_ge (tgt := 78) hx hb gX12_taken_4.2.1 (by decide) (fun _ => ?_) (fun c9 => absurd (by decide) c9)
          refine lv_iload_n hx hb gX12_taken_4.2.2.2.2.1 rfl (lv_at0 hl) ?_
          refine lv_if_lt (tgt := 95) hx hb gX12_taken_4.2.2.2.2.2.1 (by decide) (fun c9 => absurd c9 (by decide)) (fun _ => ?_)
          refine lv_iload_n hx hb gX12_taken_4.2.2.2.2.2.2.1 rfl (lv_at0 hl) ?_
          refine lv_iload_n hx hb gX12_taken_4.2.2.2.2.2.2.2.1 rfl (lv_at3 hl) ?_
          refine lv_icmp_eq (tgt := 95) hx hb gX12_taken_4.2.2.2.2.2.2.2.2.1 (by decide) (fun c_84_5493 => ?_) (fun c_84_5493 => ?_)
          · refine lv_iload_n hx hb gX12_taken_5.2.2.2.1 rfl (lv_at0 hl) ?_
            refine lv_iload_n hx hb gX12_taken_5.2.2.2.2.1 rfl (lv_at3 hl) ?_
            refine lv_icmp_ne (tgt := 109) hx hb gX12_taken_5.2.2.2.2.2.1 (by decide) (fun c9 => absurd (c_84_5493) c9) (fun _ => ?_)
            refine lv_aload_n hx hb gX12_taken_5.2.2.2.2.2.2.1 rfl (lv_at1 hl) ?_
            refine gf_X12_75 hC rfl hK hP 0 rfl rfl gX12_taken_5.2.2.2.2.2.2.2.1 ?_
            refine lv_iload_n hx hb gX12_taken_5.2.2.2.2.2.2.2.2.1 rfl (lv_at2 hl) ?_
            refine aldN hC hK hP 3 rfl (k := jt) (by omega) (Nat.le_of_ble_eq_true rfl) (v := fnsf jt) rfl gX12_taken_5.2.2.2.2.2.2.2.2.2 ?_
            refine lv_goto (tgt := 111) hx hb gX12_taken_6.1 (by decide) ?_
            refine toQ hQ0 ?_
            exact RP (v := fnsf jt) hC ((by first | rfl | (simp only [nI_clamp (n := jt) (by omega), ifc_t ekq, ifc_t hkq, ifc_t ek8, ifc_t hk8, ifc_t ek9, ifc_t hk9, ifc_t hN, ifc_t a5480, ifc_t a5482, ifc_f c_37_5483, ifc_t c_84_5493, ifc_t (q := Wi x2 0 6 ∨ Wi x2 10 14) (Or.inl a5482), a5485, ifc_f (q := (2 : Int32) < 0) (by decide), ifc_t (q := UNl (2 : Int32).toNatClampNeg x2) (show UNl 2 x2 from Or.inl (c_84_5493.symm))]; done) | (simp only [nI_clamp (n := jt) (by omega), ifc_t ekq, ifc_t hkq, ifc_t ek8, ifc_t hk8, ifc_t ek9, ifc_t hk9, ifc_t hN, ifc_t a5480, ifc_t a5482, ifc_f c_37_5483, ifc_t c_84_5493, ifc_t (q := Wi x2 0 6 ∨ Wi x2 10 14) (Or.inl a5482), a5485, ifc_f (q := (2 : Int32) < 0) (by decide), ifc_t (q := UNl (2 : Int32).toNatClampNeg x2) (show UNl 2 x2 from Or.inl (c_84_5493.symm))]; rfl))) rfl gX12_taken_6.2.2
          · refine lv_iload_n hx hb gX12_taken_4.2.2.2.2.2.2.2.2.2 rfl (lv_at0 hl) ?_
            refine pS hC hK hl (m_above2 l G) si_X12_348 rfl rfl (Nat.le_of_ble_eq_true rfl) rm_4_1_1 ⟨by first | exact Nat.le_of_ble_eq_true rfl | exact Nat.zero_le _, by first | exact Nat.le_of_ble_eq_true rfl | exact Nat.zero_le _⟩ gX12_taken_5.1 (Keqr ?_)
            refine lv_istore_n (lv' := [(3, .int 0), (0, .ref h0), (1, .int (nI jt)), (2, .int x2)]) hx hb gX12_taken_5.2.1 rfl hl (by decide) rfl (fun ls hl => ?_)
            refine lv_goto (tgt := 78) hx hb gX12_taken_5.2.2.1 (by decide) ?_
            refine lv_iload_n hx hb gX12_taken_4.2.2.2.2.1 rfl (lv_at0 hl) ?_
            refine lv_if_lt (tgt := 95) hx hb gX12_taken_4.2.2.2.2.2.1 (by decide) (fun c9 => absurd c9 (by decide)) (fun _ => ?_)
            refine lv_iload_n hx hb gX12_taken_4.2.2.2.2.2.2.1 rfl (lv_at0 hl) ?_
            refine lv_iload_n hx hb gX12_taken_4.2.2.2.2.2.2.2.1 rfl (lv_at3 hl) ?_
            refine lv_icmp_eq (tgt := 95) hx hb gX12_taken_4.2.2.2.2.2.2.2.2.1 (by decide) (fun c_84_5496 => ?_) (fun c_84_5496 => ?_)
            · refine lv_iload_n hx hb gX12_taken_5.2.2.2.1 rfl (lv_at0 hl) ?_
              refine lv_iload_n hx hb gX12_taken_5.2.2.2.2.1 rfl (lv_at3 hl) ?_
              refine lv_icmp_ne (tgt := 109) hx hb gX12_taken_5.2.2.2.2.2.1 (by decide) (fun c9 => absurd (c_84_5496) c9) (fun _ => ?_)
              refine lv_aload_n hx hb gX12_taken_5.2.2.2.2.2.2.1 rfl (lv_at1 hl) ?_
              refine gf_X12_75 hC rfl hK hP 0 rfl rfl gX12_taken_5.2.2.2.2.2.2.2.1 ?_
              refine lv_iload_n hx hb gX12_taken_5.2.2.2.2.2.2.2.2.1 rfl (lv_at2 hl) ?_
              refine aldN hC hK hP 3 rfl (k := jt) (by omega) (Nat.le_of_ble_eq_true rfl) (v := fnsf jt) rfl gX12_taken_5.2.2.2.2.2.2.2.2.2 ?_
              refine lv_goto (tgt := 111) hx hb gX12_taken_6.1 (by decide) ?_
              refine toQ hQ0 ?_
              exact RP (v := fnsf jt) hC ((by first | rfl | (simp only [nI_clamp (n := jt) (by omega), ifc_t ekq, ifc_t hkq, ifc_t ek8, ifc_t hk8, ifc_t ek9, ifc_t hk9, ifc_t hN, ifc_t a5480, ifc_t a5482, ifc_f c_37_5483, ifc_f c_84_5493, ifc_t c_84_5496, ifc_t (q := Wi x2 0 6 ∨ Wi x2 10 14) (Or.inl a5482), a5485, ifc_f (q := (2 : Int32) < 0) (by decide), ifc_t (q := UNl (2 : Int32).toNatClampNeg x2) (show UNl 2 x2 from Or.inr (c_84_5496.symm))]; done) | (simp only [nI_clamp (n := jt) (by omega), ifc_t ekq, ifc_t hkq, ifc_t ek8, ifc_t hk8, ifc_t ek9, ifc_t hk9, ifc_t hN, ifc_t a5480, ifc_t a5482, ifc_f c_37_5483, ifc_f c_84_5493, ifc_t c_84_5496, ifc_t (q := Wi x2 0 6 ∨ Wi x2 10 14) (Or.inl a5482), a5485, ifc_f (q := (2 : Int32) < 0) (by decide), ifc_t (q := UNl (2 : Int32).toNatClampNeg x2) (show UNl 2 x2 from Or.inr (c_84_5496.symm))]; rfl))) rfl gX12_taken_6.2.2
            · refine lv_iload_n hx hb gX12_taken_4.2.2.2.2.2.2.2.2.2 rfl (lv_at0 hl) ?_
              refine pS hC hK hl (m_above0 l G) si_X12_348 rfl rfl (Nat.le_of_ble_eq_true rfl) rm_4_1_1 ⟨by first | exact Nat.le_of_ble_eq_true rfl | exact Nat.zero_le _, by first | exact Nat.le_of_ble_eq_true rfl | exact Nat.zero_le _⟩ gX12_taken_5.1 (Keqr ?_)
              refine lv_istore_n (lv' := [(3, .int (-1)), (0, .ref h0), (1, .int (nI jt)), (2, .int x2)]) hx hb gX12_taken_5.2.1 rfl hl (by decide) rfl (fun ls hl => ?_)
              refine lv_goto (tgt := 78) hx hb gX12_taken_5.2.2.1 (by decide) ?_
              refine lv_iload_n hx hb gX12_taken_4.2.2.2.2.1 rfl (lv_at0 hl) ?_
              refine lv_if_lt (tgt := 95) hx hb gX12_taken_4.2.2.2.2.2.1 (by decide) (fun _ => ?_) (fun c9 => absurd (by decide) c9)
              refine lv_iload_n hx hb gX12_taken_5.2.2.2.1 rfl (lv_at0 hl) ?_
              refine lv_iload_n hx hb gX12_taken_5.2.2.2.2.1 rfl (lv_at3 hl) ?_
              refine lv_icmp_ne (tgt := 109) hx hb gX12_taken_5.2.2.2.2.2.1 (by decide) (fun c_97_5499 => ?_) (fun c_97_5499 => ?_)
              · refine lv_bipush (v := (-13)) hx hb gX12_taken_6.2.1 (by decide) ?_
                refine toQ hQ0 ?_
                exact RP (v := (-13)) hC ((by first | rfl | (simp only [nI_clamp (n := jt) (by omega), ifc_t ekq, ifc_t hkq, ifc_t ek8, ifc_t hk8, ifc_t ek9, ifc_t hk9, ifc_t hN, ifc_t a5480, ifc_t a5482, ifc_f c_37_5483, ifc_f c_84_5493, ifc_f c_84_5496, ifc_f c_97_5499, ifc_t (q := Wi x2 0 6 ∨ Wi x2 10 14) (Or.inl a5482), a5485, ifc_f (q := (2 : Int32) < 0) (by decide), ifc_f (q := UNl (2 : Int32).toNatClampNeg x2) (fun h9 => (show False from by have h7 : x2 = 2 ∨ x2 = 0 := h9; rcases h7 with h8 | h8 <;> (first | exact c_84_5493 h8.symm | exact c_84_5496 h8.symm)))]; done) | (simp only [nI_clamp (n := jt) (by omega), ifc_t ekq, ifc_t hkq, ifc_t ek8, ifc_t hk8, ifc_t ek9, ifc_t hk9, ifc_t hN, ifc_t a5480, ifc_t a5482, ifc_f c_37_5483, ifc_f c_84_5493, ifc_f c_84_5496, ifc_f c_97_5499, ifc_t (q := Wi x2 0 6 ∨ Wi x2 10 14) (Or.inl a5482), a5485, ifc_f (q := (2 : Int32) < 0) (by decide), ifc_f (q := UNl (2 : Int32).toNatClampNeg x2) (fun h9 => (show False from by have h7 : x2 = 2 ∨ x2 = 0 := h9; rcases h7 with h8 | h8 <;> (first | exact c_84_5493 h8.symm | exact c_84_5496 h8.symm)))]; rfl))) rfl gX12_taken_6.2.2
              · refine lv_aload_n hx hb gX12_taken_5.2.2.2.2.2.2.1 rfl (lv_at1 hl) ?_
                refine gf_X12_75 hC rfl hK hP 0 rfl rfl gX12_taken_5.2.2.2.2.2.2.2.1 ?_
                refine lv_iload_n hx hb gX12_taken_5.2.2.2.2.2.2.2.2.1 rfl (lv_at2 hl) ?_
                refine aldN hC hK hP 3 rfl (k := jt) (by omega) (Nat.le_of_ble_eq_true rfl) (v := fnsf jt) rfl gX12_taken_5.2.2.2.2.2.2.2.2.2 ?_
                refine lv_goto (tgt := 111) hx hb gX12_taken_6.1 (by decide) ?_
                refine toQ hQ0 ?_
                exact RP (v := fnsf jt) hC ((absurd a5482 (by rw [← c_97_5499]; unfold Wi; decide))) rfl gX12_taken_6.2.2
        · refine lv_istore_n (lv' := [(3, .int 3), (0, .ref h0), (1, .int (nI jt)), (2, .int x2)]) hx hb gX12_taken_3.2.2.2.2.2.2.2.2.2 rfl hl (by decide) rfl (fun ls hl => ?_)
          refine lv_iload_n hx hb gX12_taken_4.1 rfl (lv_at0 hl) ?_
          refine lv_if_ge (tgt := 78) hx hb gX12_taken_4.2.1 (by decide) (fun _ => ?_) (fun c9 => absurd (by decide) c9)
          refine lv_iload_n hx hb gX12_taken_4.2.2.2.2.1 rfl (lv_at0 hl) ?_
          refine lv_if_lt (tgt := 95) hx hb gX12_taken_4.2.2.2.2.2.1 (by decide) (fun c9 => absurd c9 (by decide)) (fun _ => ?_)
          refine lv_iload_n hx hb gX12_taken_4.2.2.2.2.2.2.1 rfl (lv_at0 hl) ?_
          refine lv_iload_n hx hb gX12_taken_4.2.2.2.2.2.2.2.1 rfl (lv_at3 hl) ?_
          refine lv_icmp_eq (tgt := 95) hx hb gX12_taken_4.2.2.2.2.2.2.2.2.1 (by decide) (fun c_84_5500 => ?_) (fun c_84_5500 => ?_)
          · refine lv_iload_n hx hb gX12_taken_5.2.2.2.1 rfl (lv_at0 hl) ?_
            refine lv_iload_n hx hb gX12_taken_5.2.2.2.2.1 rfl (lv_at3 hl) ?_
            refine lv_icmp_ne (tgt := 109) hx hb gX12_taken_5.2.2.2.2.2.1 (by decide) (fun c9 => absurd (c_84_5500) c9) (fun _ => ?_)
            refine lv_aload_n hx hb gX12_taken_5.2.2.2.2.2.2.1 rfl (lv_at1 hl) ?_
            refine gf_X12_75 hC rfl hK hP 0 rfl rfl gX12_taken_5.2.2.2.2.2.2.2.1 ?_
            refine lv_iload_n hx hb gX12_taken_5.2.2.2.2.2.2.2.2.1 rfl (lv_at2 hl) ?_
            refine aldN hC hK hP 3 rfl (k := jt) (by omega) (Nat.le_of_ble_eq_true rfl) (v := fnsf jt) rfl gX12_taken_5.2.2.2.2.2.2.2.2.2 ?_
            refine lv_goto (tgt := 111) hx hb gX12_taken_6.1 (by decide) ?_
            refine toQ hQ0 ?_
            exact RP (v := fnsf jt) hC ((by first | rfl | (simp only [nI_clamp (n := jt) (by omega), ifc_t ekq, ifc_t hkq, ifc_t ek8, ifc_t hk8, ifc_t ek9, ifc_t hk9, ifc_t hN, ifc_t a5480, ifc_t a5482, ifc_f c_37_5483, ifc_t c_84_5500, ifc_t (q := Wi x2 0 6 ∨ Wi x2 10 14) (Or.inl a5482), a5485, ifc_f (q := (3 : Int32) < 0) (by decide), ifc_t (q := UNl (3 : Int32).toNatClampNeg x2) (show UNl 3 x2 from Or.inl (c_84_5500.symm))]; done) | (simp only [nI_clamp (n := jt) (by omega), ifc_t ekq, ifc_t hkq, ifc_t ek8, ifc_t hk8, ifc_t ek9, ifc_t hk9, ifc_t hN, ifc_t a5480, ifc_t a5482, ifc_f c_37_5483, ifc_t c_84_5500, ifc_t (q := Wi x2 0 6 ∨ Wi x2 10 14) (Or.inl a5482), a5485, ifc_f (q := (3 : Int32) < 0) (by decide), ifc_t (q := UNl (3 : Int32).toNatClampNeg x2) (show UNl 3 x2 from Or.inl (c_84_5500.symm))]; rfl))) rfl gX12_taken_6.2.2
          · refine lv_iload_n hx hb gX12_taken_4.2.2.2.2.2.2.2.2.2 rfl (lv_at0 hl) ?_
            refine pS hC hK hl (m_above3 l G) si_X12_348 rfl rfl (Nat.le_of_ble_eq_true rfl) rm_4_1_1 ⟨by first | exact Nat.le_of_ble_eq_true rfl | exact Nat.zero_le _, by first | exact Nat.le_of_ble_eq_true rfl | exact Nat.zero_le _⟩ gX12_taken_5.1 (Keqr ?_)
            refine lv_istore_n (lv' := [(3, .int 1), (0, .ref h0), (1, .int (nI jt)), (2, .int x2)]) hx hb gX12_taken_5.2.1 rfl hl (by decide) rfl (fun ls hl => ?_)
            refine lv_goto (tgt := 78) hx hb gX12_taken_5.2.2.1 (by decide) ?_
            refine lv_iload_n hx hb gX12_taken_4.2.2.2.2.1 rfl (lv_at0 hl) ?_
            refine lv_if_lt (tgt := 95) hx hb gX12_taken_4.2.2.2.2.2.1 (by decide) (fun c9 => absurd c9 (by decide)) (fun _ => ?_)
            refine lv_iload_n hx hb gX12_taken_4.2.2.2.2.2.2.1 rfl (lv_at0 hl) ?_
            refine lv_iload_n hx hb gX12_taken_4.2.2.2.2.2.2.2.1 rfl (lv_at3 hl) ?_
            refine lv_icmp_eq (tgt := 95) hx hb gX12_taken_4.2.2.2.2.2.2.2.2.1 (by decide) (fun c_84_5503 => ?_) (fun c_84_5503 => ?_)
            · refine lv_iload_n hx hb gX12_taken_5.2.2.2.1 rfl (lv_at0 hl) ?_
              refine lv_iload_n hx hb gX12_taken_5.2.2.2.2.1 rfl (lv_at3 hl) ?_
              refine lv_icmp_ne (tgt := 109) hx hb gX12_taken_5.2.2.2.2.2.1 (by decide) (fun c9 => absurd (c_84_5503) c9) (fun _ => ?_)
              refine lv_aload_n hx hb gX12_taken_5.2.2.2.2.2.2.1 rfl (lv_at1 hl) ?_
              refine gf_X12_75 hC rfl hK hP 0 rfl rfl gX12_taken_5.2.2.2.2.2.2.2.1 ?_
              refine lv_iload_n hx hb gX12_taken_5.2.2.2.2.2.2.2.2.1 rfl (lv_at2 hl) ?_
              refine aldN hC hK hP 3 rfl (k := jt) (by omega) (Nat.le_of_ble_eq_true rfl) (v := fnsf jt) rfl gX12_taken_5.2.2.2.2.2.2.2.2.2 ?_
              refine lv_goto (tgt := 111) hx hb gX12_taken_6.1 (by decide) ?_
              refine toQ hQ0 ?_
              exact RP (v := fnsf jt) hC ((by first | rfl | (simp only [nI_clamp (n := jt) (by omega), ifc_t ekq, ifc_t hkq, ifc_t ek8, ifc_t hk8, ifc_t ek9, ifc_t hk9, ifc_t hN, ifc_t a5480, ifc_t a5482, ifc_f c_37_5483, ifc_f c_84_5500, ifc_t c_84_5503, ifc_t (q := Wi x2 0 6 ∨ Wi x2 10 14) (Or.inl a5482), a5485, ifc_f (q := (3 : Int32) < 0) (by decide), ifc_t (q := UNl (3 : Int32).toNatClampNeg x2) (show UNl 3 x2 from Or.inr (Or.inl (c_84_5503.symm)))]; done) | (simp only [nI_clamp (n := jt) (by omega), ifc_t ekq, ifc_t hkq, ifc_t ek8, ifc_t hk8, ifc_t ek9, ifc_t hk9, ifc_t hN, ifc_t a5480, ifc_t a5482, ifc_f c_37_5483, ifc_f c_84_5500, ifc_t c_84_5503, ifc_t (q := Wi x2 0 6 ∨ Wi x2 10 14) (Or.inl a5482), a5485, ifc_f (q := (3 : Int32) < 0) (by decide), ifc_t (q := UNl (3 : Int32).toNatClampNeg x2) (show UNl 3 x2 from Or.inr (Or.inl (c_84_5503.symm)))]; rfl))) rfl gX12_taken_6.2.2
            · refine lv_iload_n hx hb gX12_taken_4.2.2.2.2.2.2.2.2.2 rfl (lv_at0 hl) ?_
              refine pS hC hK hl (m_above1 l G) si_X12_348 rfl rfl (Nat.le_of_ble_eq_true rfl) rm_4_1_1 ⟨by first | exact Nat.le_of_ble_eq_true rfl | exact Nat.zero_le _, by first | exact Nat.le_of_ble_eq_true rfl | exact Nat.zero_le _⟩ gX12_taken_5.1 (Keqr ?_)
              refine lv_istore_n (lv' := [(3, .int 0), (0, .ref h0), (1, .int (nI jt)), (2, .int x2)]) hx hb gX12_taken_5.2.1 rfl hl (by decide) rfl (fun ls hl => ?_)
              refine lv_goto (tgt := 78) hx hb gX12_taken_5.2.2.1 (by decide) ?_
              refine lv_iload_n hx hb gX12_taken_4.2.2.2.2.1 rfl (lv_at0 hl) ?_
              refine lv_if_lt (tgt := 95) hx hb gX12_taken_4.2.2.2.2.2.1 (by decide) (fun c9 => absurd c9 (by decide)) (fun _ => ?_)
              refine lv_iload_n hx hb gX12_taken_4.2.2.2.2.2.2.1 rfl (lv_at0 hl) ?_
              refine lv_iload_n hx hb gX12_taken_4.2.2.2.2.2.2.2.1 rfl (lv_at3 hl) ?_
              refine lv_icmp_eq (tgt := 95) hx hb gX12_taken_4.2.2.2.2.2.2.2.2.1 (by decide) (fun c_84_5506 => ?_) (fun c_84_5506 => ?_)
              · refine lv_iload_n hx hb gX12_taken_5.2.2.2.1 rfl (lv_at0 hl) ?_
                refine lv_iload_n hx hb gX12_taken_5.2.2.2.2.1 rfl (lv_at3 hl) ?_
                refine lv_icmp_ne (tgt := 109) hx hb gX12_taken_5.2.2.2.2.2.1 (by decide) (fun c9 => absurd (c_84_5506) c9) (fun _ => ?_)
                refine lv_aload_n hx hb gX12_taken_5.2.2.2.2.2.2.1 rfl (lv_at1 hl) ?_
                refine gf_X12_75 hC rfl hK hP 0 rfl rfl gX12_taken_5.2.2.2.2.2.2.2.1 ?_
                refine lv_iload_n hx hb gX12_taken_5.2.2.2.2.2.2.2.2.1 rfl (lv_at2 hl) ?_
                refine aldN hC hK hP 3 rfl (k := jt) (by omega) (Nat.le_of_ble_eq_true rfl) (v := fnsf jt) rfl gX12_taken_5.2.2.2.2.2.2.2.2.2 ?_
                refine lv_goto (tgt := 111) hx hb gX12_taken_6.1 (by decide) ?_
                refine toQ hQ0 ?_
                exact RP (v := fnsf jt) hC ((by first | rfl | (simp only [nI_clamp (n := jt) (by omega), ifc_t ekq, ifc_t hkq, ifc_t ek8, ifc_t hk8, ifc_t ek9, ifc_t hk9, ifc_t hN, ifc_t a5480, ifc_t a5482, ifc_f c_37_5483, ifc_f c_84_5500, ifc_f c_84_5503, ifc_t c_84_5506, ifc_t (q := Wi x2 0 6 ∨ Wi x2 10 14) (Or.inl a5482), a5485, ifc_f (q := (3 : Int32) < 0) (by decide), ifc_t (q := UNl (3 : Int32).toNatClampNeg x2) (show UNl 3 x2 from Or.inr (Or.inr (c_84_5506.symm)))]; done) | (simp only [nI_clamp (n := jt) (by omega), ifc_t ekq, ifc_t hkq, ifc_t ek8, ifc_t hk8, ifc_t ek9, ifc_t hk9, ifc_t hN, ifc_t a5480, ifc_t a5482, ifc_f c_37_5483, ifc_f c_84_5500, ifc_f c_84_5503, ifc_t c_84_5506, ifc_t (q := Wi x2 0 6 ∨ Wi x2 10 14) (Or.inl a5482), a5485, ifc_f (q := (3 : Int32) < 0) (by decide), ifc_t (q := UNl (3 : Int32).toNatClampNeg x2) (show UNl 3 x2 from Or.inr (Or.inr (c_84_5506.symm)))]; rfl))) rfl gX12_taken_6.2.2
              · refine lv_iload_n hx hb gX12_taken_4.2.2.2.2.2.2.2.2.2 rfl (lv_at0 hl) ?_
                refine pS hC hK hl (m_above0 l G) si_X12_348 rfl rfl (Nat.le_of_ble_eq_true rfl) rm_4_1_1 ⟨by first | exact Nat.le_of_ble_eq_true rfl | exact Nat.zero_le _, by first | exact Nat.le_of_ble_eq_true rfl | exact Nat.zero_le _⟩ gX12_taken_5.1 (Keqr ?_)
                refine lv_istore_n (lv' := [(3, .int (-1)), (0, .ref h0), (1, .int (nI jt)), (2, .int x2)]) hx hb gX12_taken_5.2.1 rfl hl (by decide) rfl (fun ls hl => ?_)
                refine lv_goto (tgt := 78) hx hb gX12_taken_5.2.2.1 (by decide) ?_
                refine lv_iload_n hx hb gX12_taken_4.2.2.2.2.1 rfl (lv_at0 hl) ?_
                refine lv_if_lt (tgt := 95) hx hb gX12_taken_4.2.2.2.2.2.1 (by decide) (fun _ => ?_) (fun c9 => absurd (by decide) c9)
                refine lv_iload_n hx hb gX12_taken_5.2.2.2.1 rfl (lv_at0 hl) ?_
                refine lv_iload_n hx hb gX12_taken_5.2.2.2.2.1 rfl (lv_at3 hl) ?_
                refine lv_icmp_ne (tgt := 109) hx hb gX12_taken_5.2.2.2.2.2.1 (by decide) (fun c_97_5509 => ?_) (fun c_97_5509 => ?_)
                · refine lv_bipush (v := (-13)) hx hb gX12_taken_6.2.1 (by decide) ?_
                  refine toQ hQ0 ?_
                  exact RP (v := (-13)) hC ((by first | rfl | (simp only [nI_clamp (n := jt) (by omega), ifc_t ekq, ifc_t hkq, ifc_t ek8, ifc_t hk8, ifc_t ek9, ifc_t hk9, ifc_t hN, ifc_t a5480, ifc_t a5482, ifc_f c_37_5483, ifc_f c_84_5500, ifc_f c_84_5503, ifc_f c_84_5506, ifc_f c_97_5509, ifc_t (q := Wi x2 0 6 ∨ Wi x2 10 14) (Or.inl a5482), a5485, ifc_f (q := (3 : Int32) < 0) (by decide), ifc_f (q := UNl (3 : Int32).toNatClampNeg x2) (fun h9 => (show False from by have h7 : x2 = 3 ∨ x2 = 1 ∨ x2 = 0 := h9; rcases h7 with h8 | h8 | h8 <;> (first | exact c_84_5500 h8.symm | exact c_84_5503 h8.symm | exact c_84_5506 h8.symm)))]; done) | (simp only [nI_clamp (n := jt) (by omega), ifc_t ekq, ifc_t hkq, ifc_t ek8, ifc_t hk8, ifc_t ek9, ifc_t hk9, ifc_t hN, ifc_t a5480, ifc_t a5482, ifc_f c_37_5483, ifc_f c_84_5500, ifc_f c_84_5503, ifc_f c_84_5506, ifc_f c_97_5509, ifc_t (q := Wi x2 0 6 ∨ Wi x2 10 14) (Or.inl a5482), a5485, ifc_f (q := (3 : Int32) < 0) (by decide), ifc_f (q := UNl (3 : Int32).toNatClampNeg x2) (fun h9 => (show False from by have h7 : x2 = 3 ∨ x2 = 1 ∨ x2 = 0 := h9; rcases h7 with h8 | h8 | h8 <;> (first | exact c_84_5500 h8.symm | exact c_84_5503 h8.symm | exact c_84_5506 h8.symm)))]; rfl))) rfl gX12_taken_6.2.2
                · refine lv_aload_n hx hb gX12_taken_5.2.2.2.2.2.2.1 rfl (lv_at1 hl) ?_
                  refine gf_X12_75 hC rfl hK hP 0 rfl rfl gX12_taken_5.2.2.2.2.2.2.2.1 ?_
                  refine lv_iload_n hx hb gX12_taken_5.2.2.2.2.2.2.2.2.1 rfl (lv_at2 hl) ?_
                  refine aldN hC hK hP 3 rfl (k := jt) (by omega) (Nat.le_of_ble_eq_true rfl) (v := fnsf jt) rfl gX12_taken_5.2.2.2.2.2.2.2.2.2 ?_
                  refine lv_goto (tgt := 111) hx hb gX12_taken_6.1 (by decide) ?_
                  refine toQ hQ0 ?_
                  exact RP (v := fnsf jt) hC ((absurd a5482 (by rw [← c_97_5509]; unfold Wi; decide))) rfl gX12_taken_6.2.2
        · refine lv_istore_n (lv' := [(3, .int 4), (0, .ref h0), (1, .int (nI jt)), (2, .int x2)]) hx hb gX12_taken_3.2.2.2.2.2.2.2.2.2 rfl hl (by decide) rfl (fun ls hl => ?_)
          refine lv_iload_n hx hb gX12_taken_4.1 rfl (lv_at0 hl) ?_
          refine lv_if_ge (tgt := 78) hx hb gX12_taken_4.2.1 (by decide) (fun _ => ?_) (fun c9 => absurd (by decide) c9)
          refine lv_iload_n hx hb gX12_taken_4.2.2.2.2.1 rfl (lv_at0 hl) ?_
          refine lv_if_lt (tgt := 95) hx hb gX12_taken_4.2.2.2.2.2.1 (by decide) (fun c9 => absurd c9 (by decide)) (fun _ => ?_)
          refine lv_iload_n hx hb gX12_taken_4.2.2.2.2.2.2.1 rfl (lv_at0 hl) ?_
          refine lv_iload_n hx hb gX12_taken_4.2.2.2.2.2.2.2.1 rfl (lv_at3 hl) ?_
          refine lv_icmp_eq (tgt := 95) hx hb gX12_taken_4.2.2.2.2.2.2.2.2.1 (by decide) (fun c_84_5510 => ?_) (fun c_84_5510 => ?_)
          · refine lv_iload_n hx hb gX12_taken_5.2.2.2.1 rfl (lv_at0 hl) ?_
            refine lv_iload_n hx hb gX12_taken_5.2.2.2.2.1 rfl (lv_at3 hl) ?_
            refine lv_icmp_ne (tgt := 109) hx hb gX12_taken_5.2.2.2.2.2.1 (by decide) (fun c9 => absurd (c_84_5510) c9) (fun _ => ?_)
            refine lv_aload_n hx hb gX12_taken_5.2.2.2.2.2.2.1 rfl (lv_at1 hl) ?_
            refine gf_X12_75 hC rfl hK hP 0 rfl rfl gX12_taken_5.2.2.2.2.2.2.2.1 ?_
            refine lv_iload_n hx hb gX12_taken_5.2.2.2.2.2.2.2.2.1 rfl (lv_at2 hl) ?_
            refine aldN hC hK hP 3 rfl (k := jt) (by omega) (Nat.le_of_ble_eq_true rfl) (v := fnsf jt) rfl gX12_taken_5.2.2.2.2.2.2.2.2.2 ?_
            refine lv_goto (tgt := 111) hx hb gX12_taken_6.1 (by decide) ?_
            refine toQ hQ0 ?_
            exact RP (v := fnsf jt) hC ((by first | rfl | (simp only [nI_clamp (n := jt) (by omega), ifc_t ekq, ifc_t hkq, ifc_t ek8, ifc_t hk8, ifc_t ek9, ifc_t hk9, ifc_t hN, ifc_t a5480, ifc_t a5482, ifc_f c_37_5483, ifc_t c_84_5510, ifc_t (q := Wi x2 0 6 ∨ Wi x2 10 14) (Or.inl a5482), a5485, ifc_f (q := (4 : Int32) < 0) (by decide), ifc_t (q := UNl (4 : Int32).toNatClampNeg x2) (show UNl 4 x2 from Or.inl (c_84_5510.symm))]; done) | (simp only [nI_clamp (n := jt) (by omega), ifc_t ekq, ifc_t hkq, ifc_t ek8, ifc_t hk8, ifc_t ek9, ifc_t hk9, ifc_t hN, ifc_t a5480, ifc_t a5482, ifc_f c_37_5483, ifc_t c_84_5510, ifc_t (q := Wi x2 0 6 ∨ Wi x2 10 14) (Or.inl a5482), a5485, ifc_f (q := (4 : Int32) < 0) (by decide), ifc_t (q := UNl (4 : Int32).toNatClampNeg x2) (show UNl 4 x2 from Or.inl (c_84_5510.symm))]; rfl))) rfl gX12_taken_6.2.2
          · refine lv_iload_n hx hb gX12_taken_4.2.2.2.2.2.2.2.2.2 rfl (lv_at0 hl) ?_
            refine pS hC hK hl (m_above4 l G) si_X12_348 rfl rfl (Nat.le_of_ble_eq_true rfl) rm_4_1_1 ⟨by first | exact Nat.le_of_ble_eq_true rfl | exact Nat.zero_le _, by first | exact Nat.le_of_ble_eq_true rfl | exact Nat.zero_le _⟩ gX12_taken_5.1 (Keqr ?_)
            refine lv_istore_n (lv' := [(3, .int 0), (0, .ref h0), (1, .int (nI jt)), (2, .int x2)]) hx hb gX12_taken_5.2.1 rfl hl (by decide) rfl (fun ls hl => ?_)
            refine lv_goto (tgt := 78) hx hb gX12_taken_5.2.2.1 (by decide) ?_
            refine lv_iload_n hx hb gX12_taken_4.2.2.2.2.1 rfl (lv_at0 hl) ?_
            refine lv_if_lt (tgt := 95) hx hb gX12_taken_4.2.2.2.2.2.1 (by decide) (fun c9 => absurd c9 (by decide)) (fun _ => ?_)
            refine lv_iload_n hx hb gX12_taken_4.2.2.2.2.2.2.1 rfl (lv_at0 hl) ?_
            refine lv_iload_n hx hb gX12_taken_4.2.2.2.2.2.2.2.1 rfl (lv_at3 hl) ?_
            refine lv_icmp_eq (tgt := 95) hx hb gX12_taken_4.2.2.2.2.2.2.2.2.1 (by decide) (fun c_84_5513 => ?_) (fun c_84_5513 => ?_)
            · refine lv_iload_n hx hb gX12_taken_5.2.2.2.1 rfl (lv_at0 hl) ?_
              refine lv_iload_n hx hb gX12_taken_5.2.2.2.2.1 rfl (lv_at3 hl) ?_
              refine lv_icmp_ne (tgt := 109) hx hb gX12_taken_5.2.2.2.2.2.1 (by decide) (fun c9 => absurd (c_84_5513) c9) (fun _ => ?_)
              refine lv_aload_n hx hb gX12_taken_5.2.2.2.2.2.2.1 rfl (lv_at1 hl) ?_
              refine gf_X12_75 hC rfl hK hP 0 rfl rfl gX12_taken_5.2.2.2.2.2.2.2.1 ?_
              refine lv_iload_n hx hb gX12_taken_5.2.2.2.2.2.2.2.2.1 rfl (lv_at2 hl) ?_
              refine aldN hC hK hP 3 rfl (k := jt) (by omega) (Nat.le_of_ble_eq_true rfl) (v := fnsf jt) rfl gX12_taken_5.2.2.2.2.2.2.2.2.2 ?_
              refine lv_goto (tgt := 111) hx hb gX12_taken_6.1 (by decide) ?_
              refine toQ hQ0 ?_
              exact RP (v := fnsf jt) hC ((by first | rfl | (simp only [nI_clamp (n := jt) (by omega), ifc_t ekq, ifc_t hkq, ifc_t ek8, ifc_t hk8, ifc_t ek9, ifc_t hk9, ifc_t hN, ifc_t a5480, ifc_t a5482, ifc_f c_37_5483, ifc_f c_84_5510, ifc_t c_84_5513, ifc_t (q := Wi x2 0 6 ∨ Wi x2 10 14) (Or.inl a5482), a5485, ifc_f (q := (4 : Int32) < 0) (by decide), ifc_t (q := UNl (4 : Int32).toNatClampNeg x2) (show UNl 4 x2 from Or.inr (c_84_5513.symm))]; done) | (simp only [nI_clamp (n := jt) (by omega), ifc_t ekq, ifc_t hkq, ifc_t ek8, ifc_t hk8, ifc_t ek9, ifc_t hk9, ifc_t hN, ifc_t a5480, ifc_t a5482, ifc_f c_37_5483, ifc_f c_84_5510, ifc_t c_84_5513, ifc_t (q := Wi x2 0 6 ∨ Wi x2 10 14) (Or.inl a5482), a5485, ifc_f (q := (4 : Int32) < 0) (by decide), ifc_t (q := UNl (4 : Int32).toNatClampNeg x2) (show UNl 4 x2 from Or.inr (c_84_5513.symm))]; rfl))) rfl gX12_taken_6.2.2
            · refine lv_iload_n hx hb gX12_taken_4.2.2.2.2.2.2.2.2.2 rfl (lv_at0 hl) ?_
              refine pS hC hK hl (m_above0 l G) si_X12_348 rfl rfl (Nat.le_of_ble_eq_true rfl) rm_4_1_1 ⟨by first | exact Nat.le_of_ble_eq_true rfl | exact Nat.zero_le _, by first | exact Nat.le_of_ble_eq_true rfl | exact Nat.zero_le _⟩ gX12_taken_5.1 (Keqr ?_)
              refine lv_istore_n (lv' := [(3, .int (-1)), (0, .ref h0), (1, .int (nI jt)), (2, .int x2)]) hx hb gX12_taken_5.2.1 rfl hl (by decide) rfl (fun ls hl => ?_)
              refine lv_goto (tgt := 78) hx hb gX12_taken_5.2.2.1 (by decide) ?_
              refine lv_iload_n hx hb gX12_taken_4.2.2.2.2.1 rfl (lv_at0 hl) ?_
              refine lv_if_lt (tgt := 95) hx hb gX12_taken_4.2.2.2.2.2.1 (by decide) (fun _ => ?_) (fun c9 => absurd (by decide) c9)
              refine lv_iload_n hx hb gX12_taken_5.2.2.2.1 rfl (lv_at0 hl) ?_
              refine lv_iload_n hx hb gX12_taken_5.2.2.2.2.1 rfl (lv_at3 hl) ?_
              refine lv_icmp_ne (tgt := 109) hx hb gX12_taken_5.2.2.2.2.2.1 (by decide) (fun c_97_5516 => ?_) (fun c_97_5516 => ?_)
              · refine lv_bipush (v := (-13)) hx hb gX12_taken_6.2.1 (by decide) ?_
                refine toQ hQ0 ?_
                exact RP (v := (-13)) hC ((by first | rfl | (simp only [nI_clamp (n := jt) (by omega), ifc_t ekq, ifc_t hkq, ifc_t ek8, ifc_t hk8, ifc_t ek9, ifc_t hk9, ifc_t hN, ifc_t a5480, ifc_t a5482, ifc_f c_37_5483, ifc_f c_84_5510, ifc_f c_84_5513, ifc_f c_97_5516, ifc_t (q := Wi x2 0 6 ∨ Wi x2 10 14) (Or.inl a5482), a5485, ifc_f (q := (4 : Int32) < 0) (by decide), ifc_f (q := UNl (4 : Int32).toNatClampNeg x2) (fun h9 => (show False from by have h7 : x2 = 4 ∨ x2 = 0 := h9; rcases h7 with h8 | h8 <;> (first | exact c_84_5510 h8.symm | exact c_84_5513 h8.symm)))]; done) | (simp only [nI_clamp (n := jt) (by omega), ifc_t ekq, ifc_t hkq, ifc_t ek8, ifc_t hk8, ifc_t ek9, ifc_t hk9, ifc_t hN, ifc_t a5480, ifc_t a5482, ifc_f c_37_5483, ifc_f c_84_5510, ifc_f c_84_5513, ifc_f c_97_5516, ifc_t (q := Wi x2 0 6 ∨ Wi x2 10 14) (Or.inl a5482), a5485, ifc_f (q := (4 : Int32) < 0) (by decide), ifc_f (q := UNl (4 : Int32).toNatClampNeg x2) (fun h9 => (show False from by have h7 : x2 = 4 ∨ x2 = 0 := h9; rcases h7 with h8 | h8 <;> (first | exact c_84_5510 h8.symm | exact c_84_5513 h8.symm)))]; rfl))) rfl gX12_taken_6.2.2
              · refine lv_aload_n hx hb gX12_taken_5.2.2.2.2.2.2.1 rfl (lv_at1 hl) ?_
                refine gf_X12_75 hC rfl hK hP 0 rfl rfl gX12_taken_5.2.2.2.2.2.2.2.1 ?_
                refine lv_iload_n hx hb gX12_taken_5.2.2.2.2.2.2.2.2.1 rfl (lv_at2 hl) ?_
                refine aldN hC hK hP 3 rfl (k := jt) (by omega) (Nat.le_of_ble_eq_true rfl) (v := fnsf jt) rfl gX12_taken_5.2.2.2.2.2.2.2.2.2 ?_
                refine lv_goto (tgt := 111) hx hb gX12_taken_6.1 (by decide) ?_
                refine toQ hQ0 ?_
                exact RP (v := fnsf jt) hC ((absurd a5482 (by rw [← c_97_5516]; unfold Wi; decide))) rfl gX12_taken_6.2.2
        · refine lv_istore_n (lv' := [(3, .int 5), (0, .ref h0), (1, .int (nI jt)), (2, .int x2)]) hx hb gX12_taken_3.2.2.2.2.2.2.2.2.2 rfl hl (by decide) rfl (fun ls hl => ?_)
          refine lv_iload_n hx hb gX12_taken_4.1 rfl (lv_at0 hl) ?_
          refine lv_if_ge (tgt := 78) hx hb gX12_taken_4.2.1 (by decide) (fun _ => ?_) (fun c9 => absurd (by decide) c9)
          refine lv_iload_n hx hb gX12_taken_4.2.2.2.2.1 rfl (lv_at0 hl) ?_
          refine lv_if_lt (tgt := 95) hx hb gX12_taken_4.2.2.2.2.2.1 (by decide) (fun c9 => absurd c9 (by decide)) (fun _ => ?_)
          refine lv_iload_n hx hb gX12_taken_4.2.2.2.2.2.2.1 rfl (lv_at0 hl) ?_
          refine lv_iload_n hx hb gX12_taken_4.2.2.2.2.2.2.2.1 rfl (lv_at3 hl) ?_
          refine lv_icmp_eq (tgt := 95) hx hb gX12_taken_4.2.2.2.2.2.2.2.2.1 (by decide) (fun c_84_5517 => ?_) (fun c_84_5517 => ?_)
          · refine lv_iload_n hx hb gX12_taken_5.2.2.2.1 rfl (lv_at0 hl) ?_
            refine lv_iload_n hx hb gX12_taken_5.2.2.2.2.1 rfl (lv_at3 hl) ?_
            refine lv_icmp_ne (tgt := 109) hx hb gX12_taken_5.2.2.2.2.2.1 (by decide) (fun c9 => absurd (c_84_5517) c9) (fun _ => ?_)
            refine lv_aload_n hx hb gX12_taken_5.2.2.2.2.2.2.1 rfl (lv_at1 hl) ?_
            refine gf_X12_75 hC rfl hK hP 0 rfl rfl gX12_taken_5.2.2.2.2.2.2.2.1 ?_
            refine lv_iload_n hx hb gX12_taken_5.2.2.2.2.2.2.2.2.1 rfl (lv_at2 hl) ?_
            refine aldN hC hK hP 3 rfl (k := jt) (by omega) (Nat.le_of_ble_eq_true rfl) (v := fnsf jt) rfl gX12_taken_5.2.2.2.2.2.2.2.2.2 ?_
            refine lv_goto (tgt := 111) hx hb gX12_taken_6.1 (by decide) ?_
            refine toQ hQ0 ?_
            exact RP (v := fnsf jt) hC ((by first | rfl | (simp only [nI_clamp (n := jt) (by omega), ifc_t ekq, ifc_t hkq, ifc_t ek8, ifc_t hk8, ifc_t ek9, ifc_t hk9, ifc_t hN, ifc_t a5480, ifc_t a5482, ifc_f c_37_5483, ifc_t c_84_5517, ifc_t (q := Wi x2 0 6 ∨ Wi x2 10 14) (Or.inl a5482), a5485, ifc_f (q := (5 : Int32) < 0) (by decide), ifc_t (q := UNl (5 : Int32).toNatClampNeg x2) (show UNl 5 x2 from Or.inl (c_84_5517.symm))]; done) | (simp only [nI_clamp (n := jt) (by omega), ifc_t ekq, ifc_t hkq, ifc_t ek8, ifc_t hk8, ifc_t ek9, ifc_t hk9, ifc_t hN, ifc_t a5480, ifc_t a5482, ifc_f c_37_5483, ifc_t c_84_5517, ifc_t (q := Wi x2 0 6 ∨ Wi x2 10 14) (Or.inl a5482), a5485, ifc_f (q := (5 : Int32) < 0) (by decide), ifc_t (q := UNl (5 : Int32).toNatClampNeg x2) (show UNl 5 x2 from Or.inl (c_84_5517.symm))]; rfl))) rfl gX12_taken_6.2.2
          · refine lv_iload_n hx hb gX12_taken_4.2.2.2.2.2.2.2.2.2 rfl (lv_at0 hl) ?_
            refine pS hC hK hl (m_above5 l G) si_X12_348 rfl rfl (Nat.le_of_ble_eq_true rfl) rm_4_1_1 ⟨by first | exact Nat.le_of_ble_eq_true rfl | exact Nat.zero_le _, by first | exact Nat.le_of_ble_eq_true rfl | exact Nat.zero_le _⟩ gX12_taken_5.1 (Keqr ?_)
            refine lv_istore_n (lv' := [(3, .int 4), (0, .ref h0), (1, .int (nI jt)), (2, .int x2)]) hx hb gX12_taken_5.2.1 rfl hl (by decide) rfl (fun ls hl => ?_)
            refine lv_goto (tgt := 78) hx hb gX12_taken_5.2.2.1 (by decide) ?_
            refine lv_iload_n hx hb gX12_taken_4.2.2.2.2.1 rfl (lv_at0 hl) ?_
            refine lv_if_lt (tgt := 95) hx hb gX12_taken_4.2.2.2.2.2.1 (by decide) (fun c9 => absurd c9 (by decide)) (fun _ => ?_)
            refine lv_iload_n hx hb gX12_taken_4.2.2.2.2.2.2.1 rfl (lv_at0 hl) ?_
            refine lv_iload_n hx hb gX12_taken_4.2.2.2.2.2.2.2.1 rfl (lv_at3 hl) ?_
            refine lv_icmp_eq (tgt := 95) hx hb gX12_taken_4.2.2.2.2.2.2.2.2.1 (by decide) (fun c_84_5520 => ?_) (fun c_84_5520 => ?_)
            · refine lv_iload_n hx hb gX12_taken_5.2.2.2.1 rfl (lv_at0 hl) ?_
              refine lv_iload_n hx hb gX12_taken_5.2.2.2.2.1 rfl (lv_at3 hl) ?_
              refine lv_icmp_ne (tgt := 109) hx hb gX12_taken_5.2.2.2.2.2.1 (by decide) (fun c9 => absurd (c_84_5520) c9) (fun _ => ?_)
              refine lv_aload_n hx hb gX12_taken_5.2.2.2.2.2.2.1 rfl (lv_at1 hl) ?_
              refine gf_X12_75 hC rfl hK hP 0 rfl rfl gX12_taken_5.2.2.2.2.2.2.2.1 ?_
              refine lv_iload_n hx hb gX12_taken_5.2.2.2.2.2.2.2.2.1 rfl (lv_at2 hl) ?_
              refine aldN hC hK hP 3 rfl (k := jt) (by omega) (Nat.le_of_ble_eq_true rfl) (v := fnsf jt) rfl gX12_taken_5.2.2.2.2.2.2.2.2.2 ?_
              refine lv_goto (tgt := 111) hx hb gX12_taken_6.1 (by decide) ?_
              refine toQ hQ0 ?_
              exact RP (v := fnsf jt) hC ((by first | rfl | (simp only [nI_clamp (n := jt) (by omega), ifc_t ekq, ifc_t hkq, ifc_t ek8, ifc_t hk8, ifc_t ek9, ifc_t hk9, ifc_t hN, ifc_t a5480, ifc_t a5482, ifc_f c_37_5483, ifc_f c_84_5517, ifc_t c_84_5520, ifc_t (q := Wi x2 0 6 ∨ Wi x2 10 14) (Or.inl a5482), a5485, ifc_f (q := (5 : Int32) < 0) (by decide), ifc_t (q := UNl (5 : Int32).toNatClampNeg x2) (show UNl 5 x2 from Or.inr (Or.inl (c_84_5520.symm)))]; done) | (simp only [nI_clamp (n := jt) (by omega), ifc_t ekq, ifc_t hkq, ifc_t ek8, ifc_t hk8, ifc_t ek9, ifc_t hk9, ifc_t hN, ifc_t a5480, ifc_t a5482, ifc_f c_37_5483, ifc_f c_84_5517, ifc_t c_84_5520, ifc_t (q := Wi x2 0 6 ∨ Wi x2 10 14) (Or.inl a5482), a5485, ifc_f (q := (5 : Int32) < 0) (by decide), ifc_t (q := UNl (5 : Int32).toNatClampNeg x2) (show UNl 5 x2 from Or.inr (Or.inl (c_84_5520.symm)))]; rfl))) rfl gX12_taken_6.2.2
            · refine lv_iload_n hx hb gX12_taken_4.2.2.2.2.2.2.2.2.2 rfl (lv_at0 hl) ?_
              refine pS hC hK hl (m_above4 l G) si_X12_348 rfl rfl (Nat.le_of_ble_eq_true rfl) rm_4_1_1 ⟨by first | exact Nat.le_of_ble_eq_true rfl | exact Nat.zero_le _, by first | exact Nat.le_of_ble_eq_true rfl | exact Nat.zero_le _⟩ gX12_taken_5.1 (Keqr ?_)
              refine lv_istore_n (lv' := [(3, .int 0), (0, .ref h0), (1, .int (nI jt)), (2, .int x2)]) hx hb gX12_taken_5.2.1 rfl hl (by decide) rfl (fun ls hl => ?_)
              refine lv_goto (tgt := 78) hx hb gX12_taken_5.2.2.1 (by decide) ?_
              refine lv_iload_n hx hb gX12_taken_4.2.2.2.2.1 rfl (lv_at0 hl) ?_
              refine lv_if_lt (tgt := 95) hx hb gX12_taken_4.2.2.2.2.2.1 (by decide) (fun c9 => absurd c9 (by decide)) (fun _ => ?_)
              refine lv_iload_n hx hb gX12_taken_4.2.2.2.2.2.2.1 rfl (lv_at0 hl) ?_
              refine lv_iload_n hx hb gX12_taken_4.2.2.2.2.2.2.2.1 rfl (lv_at3 hl) ?_
              refine lv_icmp_eq (tgt := 95) hx hb gX12_taken_4.2.2.2.2.2.2.2.2.1 (by decide) (fun c_84_5523 => ?_) (fun c_84_5523 => ?_)
              · refine lv_iload_n hx hb gX12_taken_5.2.2.2.1 rfl (lv_at0 hl) ?_
                refine lv_iload_n hx hb gX12_taken_5.2.2.2.2.1 rfl (lv_at3 hl) ?_
                refine lv_icmp_ne (tgt := 109) hx hb gX12_taken_5.2.2.2.2.2.1 (by decide) (fun c9 => absurd (c_84_5523) c9) (fun _ => ?_)
                refine lv_aload_n hx hb gX12_taken_5.2.2.2.2.2.2.1 rfl (lv_at1 hl) ?_
                refine gf_X12_75 hC rfl hK hP 0 rfl rfl gX12_taken_5.2.2.2.2.2.2.2.1 ?_
                refine lv_iload_n hx hb gX12_taken_5.2.2.2.2.2.2.2.2.1 rfl (lv_at2 hl) ?_
                refine aldN hC hK hP 3 rfl (k := jt) (by omega) (Nat.le_of_ble_eq_true rfl) (v := fnsf jt) rfl gX12_taken_5.2.2.2.2.2.2.2.2.2 ?_
                refine lv_goto (tgt := 111) hx hb gX12_taken_6.1 (by decide) ?_
                refine toQ hQ0 ?_
                exact RP (v := fnsf jt) hC ((by first | rfl | (simp only [nI_clamp (n := jt) (by omega), ifc_t ekq, ifc_t hkq, ifc_t ek8, ifc_t hk8, ifc_t ek9, ifc_t hk9, ifc_t hN, ifc_t a5480, ifc_t a5482, ifc_f c_37_5483, ifc_f c_84_5517, ifc_f c_84_5520, ifc_t c_84_5523, ifc_t (q := Wi x2 0 6 ∨ Wi x2 10 14) (Or.inl a5482), a5485, ifc_f (q := (5 : Int32) < 0) (by decide), ifc_t (q := UNl (5 : Int32).toNatClampNeg x2) (show UNl 5 x2 from Or.inr (Or.inr (c_84_5523.symm)))]; done) | (simp only [nI_clamp (n := jt) (by omega), ifc_t ekq, ifc_t hkq, ifc_t ek8, ifc_t hk8, ifc_t ek9, ifc_t hk9, ifc_t hN, ifc_t a5480, ifc_t a5482, ifc_f c_37_5483, ifc_f c_84_5517, ifc_f c_84_5520, ifc_t c_84_5523, ifc_t (q := Wi x2 0 6 ∨ Wi x2 10 14) (Or.inl a5482), a5485, ifc_f (q := (5 : Int32) < 0) (by decide), ifc_t (q := UNl (5 : Int32).toNatClampNeg x2) (show UNl 5 x2 from Or.inr (Or.inr (c_84_5523.symm)))]; rfl))) rfl gX12_taken_6.2.2
              · refine lv_iload_n hx hb gX12_taken_4.2.2.2.2.2.2.2.2.2 rfl (lv_at0 hl) ?_
                refine pS hC hK hl (m_above0 l G) si_X12_348 rfl rfl (Nat.le_of_ble_eq_true rfl) rm_4_1_1 ⟨by first | exact Nat.le_of_ble_eq_true rfl | exact Nat.zero_le _, by first | exact Nat.le_of_ble_eq_true rfl | exact Nat.zero_le _⟩ gX12_taken_5.1 (Keqr ?_)
                refine lv_istore_n (lv' := [(3, .int (-1)), (0, .ref h0), (1, .int (nI jt)), (2, .int x2)]) hx hb gX12_taken_5.2.1 rfl hl (by decide) rfl (fun ls hl => ?_)
                refine lv_goto (tgt := 78) hx hb gX12_taken_5.2.2.1 (by decide) ?_
                refine lv_iload_n hx hb gX12_taken_4.2.2.2.2.1 rfl (lv_at0 hl) ?_
                refine lv_if_lt (tgt := 95) hx hb gX12_taken_4.2.2.2.2.2.1 (by decide) (fun _ => ?_) (fun c9 => absurd (by decide) c9)
                refine lv_iload_n hx hb gX12_taken_5.2.2.2.1 rfl (lv_at0 hl) ?_
                refine lv_iload_n hx hb gX12_taken_5.2.2.2.2.1 rfl (lv_at3 hl) ?_
                refine lv_icmp_ne (tgt := 109) hx hb gX12_taken_5.2.2.2.2.2.1 (by decide) (fun c_97_5526 => ?_) (fun c_97_5526 => ?_)
                · refine lv_bipush (v := (-13)) hx hb gX12_taken_6.2.1 (by decide) ?_
                  refine toQ hQ0 ?_
                  exact RP (v := (-13)) hC ((by first | rfl | (simp only [nI_clamp (n := jt) (by omega), ifc_t ekq, ifc_t hkq, ifc_t ek8, ifc_t hk8, ifc_t ek9, ifc_t hk9, ifc_t hN, ifc_t a5480, ifc_t a5482, ifc_f c_37_5483, ifc_f c_84_5517, ifc_f c_84_5520, ifc_f c_84_5523, ifc_f c_97_5526, ifc_t (q := Wi x2 0 6 ∨ Wi x2 10 14) (Or.inl a5482), a5485, ifc_f (q := (5 : Int32) < 0) (by decide), ifc_f (q := UNl (5 : Int32).toNatClampNeg x2) (fun h9 => (show False from by have h7 : x2 = 5 ∨ x2 = 4 ∨ x2 = 0 := h9; rcases h7 with h8 | h8 | h8 <;> (first | exact c_84_5517 h8.symm | exact c_84_5520 h8.symm | exact c_84_5523 h8.symm)))]; done) | (simp only [nI_clamp (n := jt) (by omega), ifc_t ekq, ifc_t hkq, ifc_t ek8, ifc_t hk8, ifc_t ek9, ifc_t hk9, ifc_t hN, ifc_t a5480, ifc_t a5482, ifc_f c_37_5483, ifc_f c_84_5517, ifc_f c_84_5520, ifc_f c_84_5523, ifc_f c_97_5526, ifc_t (q := Wi x2 0 6 ∨ Wi x2 10 14) (Or.inl a5482), a5485, ifc_f (q := (5 : Int32) < 0) (by decide), ifc_f (q := UNl (5 : Int32).toNatClampNeg x2) (fun h9 => (show False from by have h7 : x2 = 5 ∨ x2 = 4 ∨ x2 = 0 := h9; rcases h7 with h8 | h8 | h8 <;> (first | exact c_84_5517 h8.symm | exact c_84_5520 h8.symm | exact c_84_5523 h8.symm)))]; rfl))) rfl gX12_taken_6.2.2
                · refine lv_aload_n hx hb gX12_taken_5.2.2.2.2.2.2.1 rfl (lv_at1 hl) ?_
                  refine gf_X12_75 hC rfl hK hP 0 rfl rfl gX12_taken_5.2.2.2.2.2.2.2.1 ?_
                  refine lv_iload_n hx hb gX12_taken_5.2.2.2.2.2.2.2.2.1 rfl (lv_at2 hl) ?_
                  refine aldN hC hK hP 3 rfl (k := jt) (by omega) (Nat.le_of_ble_eq_true rfl) (v := fnsf jt) rfl gX12_taken_5.2.2.2.2.2.2.2.2.2 ?_
                  refine lv_goto (tgt := 111) hx hb gX12_taken_6.1 (by decide) ?_
                  refine toQ hQ0 ?_
                  exact RP (v := fnsf jt) hC ((absurd a5482 (by rw [← c_97_5526]; unfold Wi; decide))) rfl gX12_taken_6.2.2
        · refine lv_istore_n (lv' := [(3, .int 6), (0, .ref h0), (1, .int (nI jt)), (2, .int x2)]) hx hb gX12_taken_3.2.2.2.2.2.2.2.2.2 rfl hl (by decide) rfl (fun ls hl => ?_)
          refine lv_iload_n hx hb gX12_taken_4.1 rfl (lv_at0 hl) ?_
          refine lv_if_ge (tgt := 78) hx hb gX12_taken_4.2.1 (by decide) (fun _ => ?_) (fun c9 => absurd (by decide) c9)
          refine lv_iload_n hx hb gX12_taken_4.2.2.2.2.1 rfl (lv_at0 hl) ?_
          refine lv_if_lt (tgt := 95) hx hb gX12_taken_4.2.2.2.2.2.1 (by decide) (fun c9 => absurd c9 (by decide)) (fun _ => ?_)
          refine lv_iload_n hx hb gX12_taken_4.2.2.2.2.2.2.1 rfl (lv_at0 hl) ?_
          refine lv_iload_n hx hb gX12_taken_4.2.2.2.2.2.2.2.1 rfl (lv_at3 hl) ?_
          refine lv_icmp_eq (tgt := 95) hx hb gX12_taken_4.2.2.2.2.2.2.2.2.1 (by decide) (fun c_84_5527 => ?_) (fun c_84_5527 => ?_)
          · refine lv_iload_n hx hb gX12_taken_5.2.2.2.1 rfl (lv_at0 hl) ?_
            refine lv_iload_n hx hb gX12_taken_5.2.2.2.2.1 rfl (lv_at3 hl) ?_
            refine lv_icmp_ne (tgt := 109) hx hb gX12_taken_5.2.2.2.2.2.1 (by decide) (fun c9 => absurd (c_84_5527) c9) (fun _ => ?_)
            refine lv_aload_n hx hb gX12_taken_5.2.2.2.2.2.2.1 rfl (lv_at1 hl) ?_
            refine gf_X12_75 hC rfl hK hP 0 rfl rfl gX12_taken_5.2.2.2.2.2.2.2.1 ?_
            refine lv_iload_n hx hb gX12_taken_5.2.2.2.2.2.2.2.2.1 rfl (lv_at2 hl) ?_
            refine aldN hC hK hP 3 rfl (k := jt) (by omega) (Nat.le_of_ble_eq_true rfl) (v := fnsf jt) rfl gX12_taken_5.2.2.2.2.2.2.2.2.2 ?_
            refine lv_goto (tgt := 111) hx hb gX12_taken_6.1 (by decide) ?_
            refine toQ hQ0 ?_
            exact RP (v := fnsf jt) hC ((by first | rfl | (simp only [nI_clamp (n := jt) (by omega), ifc_t ekq, ifc_t hkq, ifc_t ek8, ifc_t hk8, ifc_t ek9, ifc_t hk9, ifc_t hN, ifc_t a5480, ifc_t a5482, ifc_f c_37_5483, ifc_t c_84_5527, ifc_t (q := Wi x2 0 6 ∨ Wi x2 10 14) (Or.inl a5482), a5485, ifc_f (q := (6 : Int32) < 0) (by decide), ifc_t (q := UNl (6 : Int32).toNatClampNeg x2) (show UNl 6 x2 from Or.inl (c_84_5527.symm))]; done) | (simp only [nI_clamp (n := jt) (by omega), ifc_t ekq, ifc_t hkq, ifc_t ek8, ifc_t hk8, ifc_t ek9, ifc_t hk9, ifc_t hN, ifc_t a5480, ifc_t a5482, ifc_f c_37_5483, ifc_t c_84_5527, ifc_t (q := Wi x2 0 6 ∨ Wi x2 10 14) (Or.inl a5482), a5485, ifc_f (q := (6 : Int32) < 0) (by decide), ifc_t (q := UNl (6 : Int32).toNatClampNeg x2) (show UNl 6 x2 from Or.inl (c_84_5527.symm))]; rfl))) rfl gX12_taken_6.2.2
          · refine lv_iload_n hx hb gX12_taken_4.2.2.2.2.2.2.2.2.2 rfl (lv_at0 hl) ?_
            refine pS hC hK hl (m_above6 l G) si_X12_348 rfl rfl (Nat.le_of_ble_eq_true rfl) rm_4_1_1 ⟨by first | exact Nat.le_of_ble_eq_true rfl | exact Nat.zero_le _, by first | exact Nat.le_of_ble_eq_true rfl | exact Nat.zero_le _⟩ gX12_taken_5.1 (Keqr ?_)
            refine lv_istore_n (lv' := [(3, .int 0), (0, .ref h0), (1, .int (nI jt)), (2, .int x2)]) hx hb gX12_taken_5.2.1 rfl hl (by decide) rfl (fun ls hl => ?_)
            refine lv_goto (tgt := 78) hx hb gX12_taken_5.2.2.1 (by decide) ?_
            refine lv_iload_n hx hb gX12_taken_4.2.2.2.2.1 rfl (lv_at0 hl) ?_
            refine lv_if_lt (tgt := 95) hx hb gX12_taken_4.2.2.2.2.2.1 (by decide) (fun c9 => absurd c9 (by decide)) (fun _ => ?_)
            refine lv_iload_n hx hb gX12_taken_4.2.2.2.2.2.2.1 rfl (lv_at0 hl) ?_
            refine lv_iload_n hx hb gX12_taken_4.2.2.2.2.2.2.2.1 rfl (lv_at3 hl) ?_
            refine lv_icmp_eq (tgt := 95) hx hb gX12_taken_4.2.2.2.2.2.2.2.2.1 (by decide) (fun c_84_5530 => ?_) (fun c_84_5530 => ?_)
            · refine lv_iload_n hx hb gX12_taken_5.2.2.2.1 rfl (lv_at0 hl) ?_
              refine lv_iload_n hx hb gX12_taken_5.2.2.2.2.1 rfl (lv_at3 hl) ?_
              refine lv_icmp_ne (tgt := 109) hx hb gX12_taken_5.2.2.2.2.2.1 (by decide) (fun c9 => absurd (c_84_5530) c9) (fun _ => ?_)
              refine lv_aload_n hx hb gX12_taken_5.2.2.2.2.2.2.1 rfl (lv_at1 hl) ?_
              refine gf_X12_75 hC rfl hK hP 0 rfl rfl gX12_taken_5.2.2.2.2.2.2.2.1 ?_
              refine lv_iload_n hx hb gX12_taken_5.2.2.2.2.2.2.2.2.1 rfl (lv_at2 hl) ?_
              refine aldN hC hK hP 3 rfl (k := jt) (by omega) (Nat.le_of_ble_eq_true rfl) (v := fnsf jt) rfl gX12_taken_5.2.2.2.2.2.2.2.2.2 ?_
              refine lv_goto (tgt := 111) hx hb gX12_taken_6.1 (by decide) ?_
              refine toQ hQ0 ?_
              exact RP (v := fnsf jt) hC ((by first | rfl | (simp only [nI_clamp (n := jt) (by omega), ifc_t ekq, ifc_t hkq, ifc_t ek8, ifc_t hk8, ifc_t ek9, ifc_t hk9, ifc_t hN, ifc_t a5480, ifc_t a5482, ifc_f c_37_5483, ifc_f c_84_5527, ifc_t c_84_5530, ifc_t (q := Wi x2 0 6 ∨ Wi x2 10 14) (Or.inl a5482), a5485, ifc_f (q := (6 : Int32) < 0) (by decide), ifc_t (q := UNl (6 : Int32).toNatClampNeg x2) (show UNl 6 x2 from Or.inr (c_84_5530.symm))]; done) | (simp only [nI_clamp (n := jt) (by omega), ifc_t ekq, ifc_t hkq, ifc_t ek8, ifc_t hk8, ifc_t ek9, ifc_t hk9, ifc_t hN, ifc_t a5480, ifc_t a5482, ifc_f c_37_5483, ifc_f c_84_5527, ifc_t c_84_5530, ifc_t (q := Wi x2 0 6 ∨ Wi x2 10 14) (Or.inl a5482), a5485, ifc_f (q := (6 : Int32) < 0) (by decide), ifc_t (q := UNl (6 : Int32).toNatClampNeg x2) (show UNl 6 x2 from Or.inr (c_84_5530.symm))]; rfl))) rfl gX12_taken_6.2.2
            · refine lv_iload_n hx hb gX12_taken_4.2.2.2.2.2.2.2.2.2 rfl (lv_at0 hl) ?_
              refine pS hC hK hl (m_above0 l G) si_X12_348 rfl rfl (Nat.le_of_ble_eq_true rfl) rm_4_1_1 ⟨by first | exact Nat.le_of_ble_eq_true rfl | exact Nat.zero_le _, by first | exact Nat.le_of_ble_eq_true rfl | exact Nat.zero_le _⟩ gX12_taken_5.1 (Keqr ?_)
              refine lv_istore_n (lv' := [(3, .int (-1)), (0, .ref h0), (1, .int (nI jt)), (2, .int x2)]) hx hb gX12_taken_5.2.1 rfl hl (by decide) rfl (fun ls hl => ?_)
              refine lv_goto (tgt := 78) hx hb gX12_taken_5.2.2.1 (by decide) ?_
              refine lv_iload_n hx hb gX12_taken_4.2.2.2.2.1 rfl (lv_at0 hl) ?_
              refine lv_if_lt (tgt := 95) hx hb gX12_taken_4.2.2.2.2.2.1 (by decide) (fun _ => ?_) (fun c9 => absurd (by decide) c9)
              refine lv_iload_n hx hb gX12_taken_5.2.2.2.1 rfl (lv_at0 hl) ?_
              refine lv_iload_n hx hb gX12_taken_5.2.2.2.2.1 rfl (lv_at3 hl) ?_
              refine lv_icmp_ne (tgt := 109) hx hb gX12_taken_5.2.2.2.2.2.1 (by decide) (fun c_97_5533 => ?_) (fun c_97_5533 => ?_)
              · refine lv_bipush (v := (-13)) hx hb gX12_taken_6.2.1 (by decide) ?_
                refine toQ hQ0 ?_
                exact RP (v := (-13)) hC ((by first | rfl | (simp only [nI_clamp (n := jt) (by omega), ifc_t ekq, ifc_t hkq, ifc_t ek8, ifc_t hk8, ifc_t ek9, ifc_t hk9, ifc_t hN, ifc_t a5480, ifc_t a5482, ifc_f c_37_5483, ifc_f c_84_5527, ifc_f c_84_5530, ifc_f c_97_5533, ifc_t (q := Wi x2 0 6 ∨ Wi x2 10 14) (Or.inl a5482), a5485, ifc_f (q := (6 : Int32) < 0) (by decide), ifc_f (q := UNl (6 : Int32).toNatClampNeg x2) (fun h9 => (show False from by have h7 : x2 = 6 ∨ x2 = 0 := h9; rcases h7 with h8 | h8 <;> (first | exact c_84_5527 h8.symm | exact c_84_5530 h8.symm)))]; done) | (simp only [nI_clamp (n := jt) (by omega), ifc_t ekq, ifc_t hkq, ifc_t ek8, ifc_t hk8, ifc_t ek9, ifc_t hk9, ifc_t hN, ifc_t a5480, ifc_t a5482, ifc_f c_37_5483, ifc_f c_84_5527, ifc_f c_84_5530, ifc_f c_97_5533, ifc_t (q := Wi x2 0 6 ∨ Wi x2 10 14) (Or.inl a5482), a5485, ifc_f (q := (6 : Int32) < 0) (by decide), ifc_f (q := UNl (6 : Int32).toNatClampNeg x2) (fun h9 => (show False from by have h7 : x2 = 6 ∨ x2 = 0 := h9; rcases h7 with h8 | h8 <;> (first | exact c_84_5527 h8.symm | exact c_84_5530 h8.symm)))]; rfl))) rfl gX12_taken_6.2.2
              · refine lv_aload_n hx hb gX12_taken_5.2.2.2.2.2.2.1 rfl (lv_at1 hl) ?_
                refine gf_X12_75 hC rfl hK hP 0 rfl rfl gX12_taken_5.2.2.2.2.2.2.2.1 ?_
                refine lv_iload_n hx hb gX12_taken_5.2.2.2.2.2.2.2.2.1 rfl (lv_at2 hl) ?_
                refine aldN hC hK hP 3 rfl (k := jt) (by omega) (Nat.le_of_ble_eq_true rfl) (v := fnsf jt) rfl gX12_taken_5.2.2.2.2.2.2.2.2.2 ?_
                refine lv_goto (tgt := 111) hx hb gX12_taken_6.1 (by decide) ?_
                refine toQ hQ0 ?_
                exact RP (v := fnsf jt) hC ((absurd a5482 (by rw [← c_97_5533]; unfold Wi; decide))) rfl gX12_taken_6.2.2
      · refine lv_iload_n hx hb gX12_taken_2.2.1 rfl (lv_at2 hl) ?_
        refine lv_bipush (v := 10) hx hb gX12_taken_2.2.2.1 (by decide) ?_
        refine lv_isub hx hb gX12_taken_2.2.2.2.1 ?_
        refine lv_aload_n hx hb gX12_taken_2.2.2.2.2.1 rfl (lv_at0 hl) ?_
        refine gf_X12_75 hC rfl hK hP 0 rfl rfl gX12_taken_2.2.2.2.2.2.1 ?_
        refine lv_iload_n hx hb gX12_taken_2.2.2.2.2.2.2.1 rfl (lv_at1 hl) ?_
        refine aldN hC hK hP 3 rfl (k := jt) (by omega) (Nat.le_of_ble_eq_true rfl) (v := fnsf jt) rfl gX12_taken_2.2.2.2.2.2.2.2.1 ?_
        refine lv_icmp_ne (tgt := 62) hx hb gX12_taken_2.2.2.2.2.2.2.2.2.1 (by decide) (fun c_50_5534 => ?_) (fun c_50_5534 => ?_)
        · refine lv_bipush (v := (-13)) hx hb gX12_taken_3.2.2.2.2.1 (by decide) ?_
          refine toQ hQ0 ?_
          exact RP (v := (-13)) hC ((by first | rfl | (simp only [nI_clamp (n := jt) (by omega), ifc_t ekq, ifc_t hkq, ifc_t ek8, ifc_t hk8, ifc_t ek9, ifc_t hk9, ifc_t hN, ifc_t a5480, ifc_t a5482, ifc_t c_37_5483, ifc_f c_50_5534, ifc_t (q := Wi x2 0 6 ∨ Wi x2 10 14) (Or.inl a5482)]; done) | (simp only [nI_clamp (n := jt) (by omega), ifc_t ekq, ifc_t hkq, ifc_t ek8, ifc_t hk8, ifc_t ek9, ifc_t hk9, ifc_t hN, ifc_t a5480, ifc_t a5482, ifc_t c_37_5483, ifc_f c_50_5534, ifc_t (q := Wi x2 0 6 ∨ Wi x2 10 14) (Or.inl a5482)]; rfl))) rfl gX12_taken_3.2.2.2.2.2.1
        · refine lv_aload_n hx hb gX12_taken_2.2.2.2.2.2.2.2.2.2 rfl (lv_at0 hl) ?_
          refine gf_X12_78 hC rfl hK hP 0 rfl rfl gX12_taken_3.1 ?_
          refine lv_iload_n hx hb gX12_taken_3.2.1 rfl (lv_at1 hl) ?_
          refine aldN hC hK hP 4 rfl (k := jt) (by omega) (Nat.le_of_ble_eq_true rfl) (v := fnss jt) rfl gX12_taken_3.2.2.1 ?_
          refine lv_goto (tgt := 64) hx hb gX12_taken_3.2.2.2.1 (by decide) ?_
          refine toQ hQ0 ?_
          exact RP (v := fnss jt) hC ((by first | rfl | (simp only [nI_clamp (n := jt) (by omega), ifc_t ekq, ifc_t hkq, ifc_t ek8, ifc_t hk8, ifc_t ek9, ifc_t hk9, ifc_t hN, ifc_t a5480, ifc_t a5482, ifc_t c_37_5483, ifc_t c_50_5534, ifc_t (q := Wi x2 0 6 ∨ Wi x2 10 14) (Or.inl a5482)]; done) | (simp only [nI_clamp (n := jt) (by omega), ifc_t ekq, ifc_t hkq, ifc_t ek8, ifc_t hk8, ifc_t ek9, ifc_t hk9, ifc_t hN, ifc_t a5480, ifc_t a5482, ifc_t c_37_5483, ifc_t c_50_5534, ifc_t (q := Wi x2 0 6 ∨ Wi x2 10 14) (Or.inl a5482)]; rfl))) rfl gX12_taken_3.2.2.2.2.2.1
    · refine lv_if_ne (tgt := 30) hx hb gX12_taken_0.2.2.2.2.2.2.2.1 (by decide) (fun c9 => absurd (by decide) c9) (fun _ => ?_)
      refine lv_iload_n hx hb gX12_taken_0.2.2.2.2.2.2.2.2.1 rfl (lv_at2 hl) ?_
      refine lv_bipush (v := 10) hx hb gX12_taken_0.2.2.2.2.2.2.2.2.2 (by decide) ?_
      refine lv_bipush (v := 14) hx hb gX12_taken_1.1 (by decide) ?_
      refine pS hC hK hl (m_within l G x2 10 14) si_X12_84 rfl rfl (Nat.le_of_ble_eq_true rfl) rm_4_1_3 ⟨by first | exact Nat.le_of_ble_eq_true rfl | exact Nat.zero_le _, by first | exact Nat.le_of_ble_eq_true rfl | exact Nat.zero_le _⟩ gX12_taken_1.2.1 (Kors (Keqa fun a5536 => ?_) (Keqa fun a5536 => ?_))
      · refine lv_if_ne (tgt := 30) hx hb gX12_taken_1.2.2.1 (by decide) (fun _ => ?_) (fun c9 => absurd c9 (by decide))
        obtain ⟨jt, hjt, rfl⟩ := Wi_nat (N := 3) (by decide) a5480
        refine lv_aload_n hx hb gX12_taken_1.2.2.2.2.2.1 rfl (lv_at0 hl) ?_
        refine gf_X12_72 hC rfl hK hP 0 rfl rfl gX12_taken_1.2.2.2.2.2.2.1 ?_
        refine lv_iload_n hx hb gX12_taken_1.2.2.2.2.2.2.2.1 rfl (lv_at1 hl) ?_
        refine aldN hC hK hP 2 rfl (k := jt) (by omega) (Nat.le_of_ble_eq_true rfl) (v := fnsh jt) rfl gX12_taken_1.2.2.2.2.2.2.2.2.1 ?_
        refine lv_iconst (v := 4) hx hb gX12_taken_1.2.2.2.2.2.2.2.2.2 (by decide) ?_
        refine lv_icmp_ne (tgt := 65) hx hb gX12_taken_2.1 (by decide) (fun c_37_5537 => ?_) (fun c_37_5537 => ?_)
        · refine lv_aload_n hx hb gX12_taken_3.2.2.2.2.2.2.1 rfl (lv_at0 hl) ?_
          refine lv_iload_n hx hb gX12_taken_3.2.2.2.2.2.2.2.1 rfl (lv_at1 hl) ?_
          refine pV hC hK hl hP hD (m_kindOnX l G kq k8 k9 h0 jt nw nk mhasKept nt mtaped nr mrowMany mroundOf mroundFrom mouts nm mfromHour mtoHour ns mfrom mto msort misFault mdeep mcoded mlines nl nc nF np ntr nb mbestCost nso nsi nit nsh nsf nss nrc mtraced mdealer mnumber mwhose msize misParted fnw fnsh fnsf (by omega) (ekq) (hkq) (ek8) (hk8) (ek9) (hk9) (hN)) si_X12_345 [0, 1, 2, 3] sm_0_1_2_3 fm_0_1_2_3 nd_0_1_2_3 rfl rfl rfl rfl rfl (Nat.le_of_ble_eq_true rfl) rm_4_3_4 ⟨by first | exact Nat.le_of_ble_eq_true rfl | exact Nat.zero_le _, by first | exact Nat.le_of_ble_eq_true rfl | exact Nat.zero_le _⟩ gX12_taken_3.2.2.2.2.2.2.2.2.1 (Kors (Keqa fun a5539 => ?_) (Kors (Keqa fun a5539 => ?_) (Kors (Keqa fun a5539 => ?_) (Kors (Keqa fun a5539 => ?_) (Kors (Keqa fun a5539 => ?_) (Kors (Keqa fun a5539 => ?_) (Keqa fun a5539 => ?_)))))))
          · refine lv_istore_n (lv' := [(3, .int (-1)), (0, .ref h0), (1, .int (nI jt)), (2, .int x2)]) hx hb gX12_taken_3.2.2.2.2.2.2.2.2.2 rfl hl (by decide) rfl (fun ls hl => ?_)
            refine lv_iload_n hx hb gX12_taken_4.1 rfl (lv_at0 hl) ?_
            refine lv_if_ge (tgt := 78) hx hb gX12_taken_4.2.1 (by decide) (fun c9 => absurd c9 (by decide)) (fun _ => ?_)
            refine lv_bipush (v := (-11)) hx hb gX12_taken_4.2.2.1 (by decide) ?_
            refine toQ hQ0 ?_
            exact RP (v := (-11)) hC ((by first | rfl | (simp only [nI_clamp (n := jt) (by omega), ifc_t ekq, ifc_t hkq, ifc_t ek8, ifc_t hk8, ifc_t ek9, ifc_t hk9, ifc_t hN, ifc_t a5480, ifc_f a5482, ifc_t a5536, ifc_f c_37_5537, ifc_t (q := Wi x2 0 6 ∨ Wi x2 10 14) (Or.inr a5536), a5539, ifc_t (q := (-1 : Int32) < 0) (by decide)]; done) | (simp only [nI_clamp (n := jt) (by omega), ifc_t ekq, ifc_t hkq, ifc_t ek8, ifc_t hk8, ifc_t ek9, ifc_t hk9, ifc_t hN, ifc_t a5480, ifc_f a5482, ifc_t a5536, ifc_f c_37_5537, ifc_t (q := Wi x2 0 6 ∨ Wi x2 10 14) (Or.inr a5536), a5539, ifc_t (q := (-1 : Int32) < 0) (by decide)]; rfl))) rfl gX12_taken_4.2.2.2.1
          · refine lv_istore_n (lv' := [(3, .int 1), (0, .ref h0), (1, .int (nI jt)), (2, .int x2)]) hx hb gX12_taken_3.2.2.2.2.2.2.2.2.2 rfl hl (by decide) rfl (fun ls hl => ?_)
            refine lv_iload_n hx hb gX12_taken_4.1 rfl (lv_at0 hl) ?_
            refine lv_if_ge (tgt := 78) hx hb gX12_taken_4.2.1 (by decide) (fun _ => ?_) (fun c9 => absurd (by decide) c9)
            refine lv_iload_n hx hb gX12_taken_4.2.2.2.2.1 rfl (lv_at0 hl) ?_
            refine lv_if_lt (tgt := 95) hx hb gX12_taken_4.2.2.2.2.2.1 (by decide) (fun c9 => absurd c9 (by decide)) (fun _ => ?_)
            refine lv_iload_n hx hb gX12_taken_4.2.2.2.2.2.2.1 rfl (lv_at0 hl) ?_
            refine lv_iload_n hx hb gX12_taken_4.2.2.2.2.2.2.2.1 rfl (lv_at3 hl) ?_
            refine lv_icmp_eq (tgt := 95) hx hb gX12_taken_4.2.2.2.2.2.2.2.2.1 (by decide) (fun c_84_5540 => ?_) (fun c_84_5540 => ?_)
            · refine lv_iload_n hx hb gX12_taken_5.2.2.2.1 rfl (lv_at0 hl) ?_
              refine lv_iload_n hx hb gX12_taken_5.2.2.2.2.1 rfl (lv_at3 hl) ?_
              refine lv_icmp_ne (tgt := 109) hx hb gX12_taken_5.2.2.2.2.2.1 (by decide) (fun c9 => absurd (c_84_5540) c9) (fun _ => ?_)
              refine lv_aload_n hx hb gX12_taken_5.2.2.2.2.2.2.1 rfl (lv_at1 hl) ?_
              refine gf_X12_75 hC rfl hK hP 0 rfl rfl gX12_taken_5.2.2.2.2.2.2.2.1 ?_
              refine lv_iload_n hx hb gX12_taken_5.2.2.2.2.2.2.2.2.1 rfl (lv_at2 hl) ?_
              refine aldN hC hK hP 3 rfl (k := jt) (by omega) (Nat.le_of_ble_eq_true rfl) (v := fnsf jt) rfl gX12_taken_5.2.2.2.2.2.2.2.2.2 ?_
              refine lv_goto (tgt := 111) hx hb gX12_taken_6.1 (by decide) ?_
              refine toQ hQ0 ?_
              exact RP (v := fnsf jt) hC ((by first | rfl | (simp only [nI_clamp (n := jt) (by omega), ifc_t ekq, ifc_t hkq, ifc_t ek8, ifc_t hk8, ifc_t ek9, ifc_t hk9, ifc_t hN, ifc_t a5480, ifc_f a5482, ifc_t a5536, ifc_f c_37_5537, ifc_t c_84_5540, ifc_t (q := Wi x2 0 6 ∨ Wi x2 10 14) (Or.inr a5536), a5539, ifc_f (q := (1 : Int32) < 0) (by decide), ifc_t (q := UNl (1 : Int32).toNatClampNeg x2) (show UNl 1 x2 from Or.inl (c_84_5540.symm))]; done) | (simp only [nI_clamp (n := jt) (by omega), ifc_t ekq, ifc_t hkq, ifc_t ek8, ifc_t hk8, ifc_t ek9, ifc_t hk9, ifc_t hN, ifc_t a5480, ifc_f a5482, ifc_t a5536, ifc_f c_37_5537, ifc_t c_84_5540, ifc_t (q := Wi x2 0 6 ∨ Wi x2 10 14) (Or.inr a5536), a5539, ifc_f (q := (1 : Int32) < 0) (by decide), ifc_t (q := UNl (1 : Int32).toNatClampNeg x2) (show UNl 1 x2 from Or.inl (c_84_5540.symm))]; rfl))) rfl gX12_taken_6.2.2
            · refine lv_iload_n hx hb gX12_taken_4.2.2.2.2.2.2.2.2.2 rfl (lv_at0 hl) ?_
              refine pS hC hK hl (m_above1 l G) si_X12_348 rfl rfl (Nat.le_of_ble_eq_true rfl) rm_4_1_1 ⟨by first | exact Nat.le_of_ble_eq_true rfl | exact Nat.zero_le _, by first | exact Nat.le_of_ble_eq_true rfl | exact Nat.zero_le _⟩ gX12_taken_5.1 (Keqr ?_)
              refine lv_istore_n (lv' := [(3, .int 0), (0, .ref h0), (1, .int (nI jt)), (2, .int x2)]) hx hb gX12_taken_5.2.1 rfl hl (by decide) rfl (fun ls hl => ?_)
              refine lv_goto (tgt := 78) hx hb gX12_taken_5.2.2.1 (by decide) ?_
              refine lv_iload_n hx hb gX12_taken_4.2.2.2.2.1 rfl (lv_at0 hl) ?_
              refine lv_if_lt (tgt := 95) hx hb gX12_taken_4.2.2.2.2.2.1 (by decide) (fun c9 => absurd c9 (by decide)) (fun _ => ?_)
              refine lv_iload_n hx hb gX12_taken_4.2.2.2.2.2.2.1 rfl (lv_at0 hl) ?_
              refine lv_iload_n hx hb gX12_taken_4.2.2.2.2.2.2.2.1 rfl (lv_at3 hl) ?_
              refine lv_icmp_eq (tgt := 95) hx hb gX12_taken_4.2.2.2.2.2.2.2.2.1 (by decide) (fun c_84_5543 => ?_) (fun c_84_5543 => ?_)
              · refine lv_iload_n hx hb gX12_taken_5.2.2.2.1 rfl (lv_at0 hl) ?_
                refine lv_iload_n hx hb gX12_taken_5.2.2.2.2.1 rfl (lv_at3 hl) ?_
                refine lv_icmp_ne (tgt := 109) hx hb gX12_taken_5.2.2.2.2.2.1 (by decide) (fun c9 => absurd (c_84_5543) c9) (fun _ => ?_)
                refine lv_aload_n hx hb gX12_taken_5.2.2.2.2.2.2.1 rfl (lv_at1 hl) ?_
                refine gf_X12_75 hC rfl hK hP 0 rfl rfl gX12_taken_5.2.2.2.2.2.2.2.1 ?_
                refine lv_iload_n hx hb gX12_taken_5.2.2.2.2.2.2.2.2.1 rfl (lv_at2 hl) ?_
                refine aldN hC hK hP 3 rfl (k := jt) (by omega) (Nat.le_of_ble_eq_true rfl) (v := fnsf jt) rfl gX12_taken_5.2.2.2.2.2.2.2.2.2 ?_
                refine lv_goto (tgt := 111) hx hb gX12_taken_6.1 (by decide) ?_
                refine toQ hQ0 ?_
                exact RP (v := fnsf jt) hC ((by first | rfl | (simp only [nI_clamp (n := jt) (by omega), ifc_t ekq, ifc_t hkq, ifc_t ek8, ifc_t hk8, ifc_t ek9, ifc_t hk9, ifc_t hN, ifc_t a5480, ifc_f a5482, ifc_t a5536, ifc_f c_37_5537, ifc_f c_84_5540, ifc_t c_84_5543, ifc_t (q := Wi x2 0 6 ∨ Wi x2 10 14) (Or.inr a5536), a5539, ifc_f (q := (1 : Int32) < 0) (by decide), ifc_t (q := UNl (1 : Int32).toNatClampNeg x2) (show UNl 1 x2 from Or.inr (c_84_5543.symm))]; done) | (simp only [nI_clamp (n := jt) (by omega), ifc_t ekq, ifc_t hkq, ifc_t ek8, ifc_t hk8, ifc_t ek9, ifc_t hk9, ifc_t hN, ifc_t a5480, ifc_f a5482, ifc_t a5536, ifc_f c_37_5537, ifc_f c_84_5540, ifc_t c_84_5543, ifc_t (q := Wi x2 0 6 ∨ Wi x2 10 14) (Or.inr a5536), a5539, ifc_f (q := (1 : Int32) < 0) (by decide), ifc_t (q := UNl (1 : Int32).toNatClampNeg x2) (show UNl 1 x2 from Or.inr (c_84_5543.symm))]; rfl))) rfl gX12_taken_6.2.2
              · refine lv_iload_n hx hb gX12_taken_4.2.2.2.2.2.2.2.2.2 rfl (lv_at0 hl) ?_
                refine pS hC hK hl (m_above0 l G) si_X12_348 rfl rfl (Nat.le_of_ble_eq_true rfl) rm_4_1_1 ⟨by first | exact Nat.le_of_ble_eq_true rfl | exact Nat.zero_le _, by first | exact Nat.le_of_ble_eq_true rfl | exact Nat.zero_le _⟩ gX12_taken_5.1 (Keqr ?_)
                refine lv_istore_n (lv' := [(3, .int (-1)), (0, .ref h0), (1, .int (nI jt)), (2, .int x2)]) hx hb gX12_taken_5.2.1 rfl hl (by decide) rfl (fun ls hl => ?_)
                refine lv_goto (tgt := 78) hx hb gX12_taken_5.2.2.1 (by decide) ?_
                refine lv_iload_n hx hb gX12_taken_4.2.2.2.2.1 rfl (lv_at0 hl) ?_
                refine lv_if_lt (tgt := 95) hx hb gX12_taken_4.2.2.2.2.2.1 (by decide) (fun _ => ?_) (fun c9 => absurd (by decide) c9)
                refine lv_iload_n hx hb gX12_taken_5.2.2.2.1 rfl (lv_at0 hl) ?_
                refine lv_iload_n hx hb gX12_taken_5.2.2.2.2.1 rfl (lv_at3 hl) ?_
                refine lv_icmp_ne (tgt := 109) hx hb gX12_taken_5.2.2.2.2.2.1 (by decide) (fun c_97_5546 => ?_) (fun c_97_5546 => ?_)
                · refine lv_bipush (v := (-13)) hx hb gX12_taken_6.2.1 (by decide) ?_
                  refine toQ hQ0 ?_
                  exact RP (v := (-13)) hC ((by first | rfl | (simp only [nI_clamp (n := jt) (by omega), ifc_t ekq, ifc_t hkq, ifc_t ek8, ifc_t hk8, ifc_t ek9, ifc_t hk9, ifc_t hN, ifc_t a5480, ifc_f a5482, ifc_t a5536, ifc_f c_37_5537, ifc_f c_84_5540, ifc_f c_84_5543, ifc_f c_97_5546, ifc_t (q := Wi x2 0 6 ∨ Wi x2 10 14) (Or.inr a5536), a5539, ifc_f (q := (1 : Int32) < 0) (by decide), ifc_f (q := UNl (1 : Int32).toNatClampNeg x2) (fun h9 => (show False from by have h7 : x2 = 1 ∨ x2 = 0 := h9; rcases h7 with h8 | h8 <;> (first | exact c_84_5540 h8.symm | exact c_84_5543 h8.symm)))]; done) | (simp only [nI_clamp (n := jt) (by omega), ifc_t ekq, ifc_t hkq, ifc_t ek8, ifc_t hk8, ifc_t ek9, ifc_t hk9, ifc_t hN, ifc_t a5480, ifc_f a5482, ifc_t a5536, ifc_f c_37_5537, ifc_f c_84_5540, ifc_f c_84_5543, ifc_f c_97_5546, ifc_t (q := Wi x2 0 6 ∨ Wi x2 10 14) (Or.inr a5536), a5539, ifc_f (q := (1 : Int32) < 0) (by decide), ifc_f (q := UNl (1 : Int32).toNatClampNeg x2) (fun h9 => (show False from by have h7 : x2 = 1 ∨ x2 = 0 := h9; rcases h7 with h8 | h8 <;> (first | exact c_84_5540 h8.symm | exact c_84_5543 h8.symm)))]; rfl))) rfl gX12_taken_6.2.2
                · refine lv_aload_n hx hb gX12_taken_5.2.2.2.2.2.2.1 rfl (lv_at1 hl) ?_
                  refine gf_X12_75 hC rfl hK hP 0 rfl rfl gX12_taken_5.2.2.2.2.2.2.2.1 ?_
                  refine lv_iload_n hx hb gX12_taken_5.2.2.2.2.2.2.2.2.1 rfl (lv_at2 hl) ?_
                  refine aldN hC hK hP 3 rfl (k := jt) (by omega) (Nat.le_of_ble_eq_true rfl) (v := fnsf jt) rfl gX12_taken_5.2.2.2.2.2.2.2.2.2 ?_
                  refine lv_goto (tgt := 111) hx hb gX12_taken_6.1 (by decide) ?_
                  refine toQ hQ0 ?_
                  exact RP (v := fnsf jt) hC ((absurd a5536 (by rw [← c_97_5546]; unfold Wi; decide))) rfl gX12_taken_6.2.2
          · refine lv_istore_n (lv' := [(3, .int 2), (0, .ref h0), (1, .int (nI jt)), (2, .int x2)]) hx hb gX12_taken_3.2.2.2.2.2.2.2.2.2 rfl hl (by decide) rfl (fun ls hl => ?_)
            refine lv_iload_n hx hb gX12_taken_4.1 rfl (lv_at0 hl) ?_
            refine lv_if_ge (tgt := 78) hx hb gX12_taken_4.2.1 (by decide) (fun _ => ?_) (fun c9 => absurd (by decide) c9)
            refine lv_iload_n hx hb gX12_taken_4.2.2.2.2.1 rfl (lv_at0 hl) ?_
            refine lv_if_lt (tgt := 95) hx hb gX12_taken_4.2.2.2.2.2.1 (by decide) (fun c9 => absurd c9 (by decide)) (fun _ => ?_)
            refine lv_iload_n hx hb gX12_taken_4.2.2.2.2.2.2.1 rfl (lv_at0 hl) ?_
            refine lv_iload_n hx hb gX12_taken_4.2.2.2.2.2.2.2.1 rfl (lv_at3 hl) ?_
            refine lv_icmp_eq (tgt := 95) hx hb gX12_taken_4.2.2.2.2.2.2.2.2.1 (by decide) (fun c_84_5547 => ?_) (fun c_84_5547 => ?_)
            · refine lv_iload_n hx hb gX12_taken_5.2.2.2.1 rfl (lv_at0 hl) ?_
              refine lv_iload_n hx hb gX12_taken_5.2.2.2.2.1 rfl (lv_at3 hl) ?_
              refine lv_icmp_ne (tgt := 109) hx hb gX12_taken_5.2.2.2.2.2.1 (by decide) (fun c9 => absurd (c_84_5547) c9) (fun _ => ?_)
              refine lv_aload_n hx hb gX12_taken_5.2.2.2.2.2.2.1 rfl (lv_at1 hl) ?_
              refine gf_X12_75 hC rfl hK hP 0 rfl rfl gX12_taken_5.2.2.2.2.2.2.2.1 ?_
              refine lv_iload_n hx hb gX12_taken_5.2.2.2.2.2.2.2.2.1 rfl (lv_at2 hl) ?_
              refine aldN hC hK hP 3 rfl (k := jt) (by omega) (Nat.le_of_ble_eq_true rfl) (v := fnsf jt) rfl gX12_taken_5.2.2.2.2.2.2.2.2.2 ?_
              refine lv_goto (tgt := 111) hx hb gX12_taken_6.1 (by decide) ?_
              refine toQ hQ0 ?_
              exact RP (v := fnsf jt) hC ((by first | rfl | (simp only [nI_clamp (n := jt) (by omega), ifc_t ekq, ifc_t hkq, ifc_t ek8, ifc_t hk8, ifc_t ek9, ifc_t hk9, ifc_t hN, ifc_t a5480, ifc_f a5482, ifc_t a5536, ifc_f c_37_5537, ifc_t c_84_5547, ifc_t (q := Wi x2 0 6 ∨ Wi x2 10 14) (Or.inr a5536), a5539, ifc_f (q := (2 : Int32) < 0) (by decide), ifc_t (q := UNl (2 : Int32).toNatClampNeg x2) (show UNl 2 x2 from Or.inl (c_84_5547.symm))]; done) | (simp only [nI_clamp (n := jt) (by omega), ifc_t ekq, ifc_t hkq, ifc_t ek8, ifc_t hk8, ifc_t ek9, ifc_t hk9, ifc_t hN, ifc_t a5480, ifc_f a5482, ifc_t a5536, ifc_f c_37_5537, ifc_t c_84_5547, ifc_t (q := Wi x2 0 6 ∨ Wi x2 10 14) (Or.inr a5536), a5539, ifc_f (q := (2 : Int32) < 0) (by decide), ifc_t (q := UNl (2 : Int32).toNatClampNeg x2) (show UNl 2 x2 from Or.inl (c_84_5547.symm))]; rfl))) rfl gX12_taken_6.2.2
            · refine lv_iload_n hx hb gX12_taken_4.2.2.2.2.2.2.2.2.2 rfl (lv_at0 hl) ?_
              refine pS hC hK hl (m_above2 l G) si_X12_348 rfl rfl (Nat.le_of_ble_eq_true rfl) rm_4_1_1 ⟨by first | exact Nat.le_of_ble_eq_true rfl | exact Nat.zero_le _, by first | exact Nat.le_of_ble_eq_true rfl | exact Nat.zero_le _⟩ gX12_taken_5.1 (Keqr ?_)
              refine lv_istore_n (lv' := [(3, .int 0), (0, .ref h0), (1, .int (nI jt)), (2, .int x2)]) hx hb gX12_taken_5.2.1 rfl hl (by decide) rfl (fun ls hl => ?_)
              refine lv_goto (tgt := 78) hx hb gX12_taken_5.2.2.1 (by decide) ?_
              refine lv_iload_n hx hb gX12_taken_4.2.2.2.2.1 rfl (lv_at0 hl) ?_
              refine lv_if_lt (tgt := 95) hx hb gX12_taken_4.2.2.2.2.2.1 (by decide) (fun c9 => absurd c9 (by decide)) (fun _ => ?_)
              refine lv_iload_n hx hb gX12_taken_4.2.2.2.2.2.2.1 rfl (lv_at0 hl) ?_
              refine lv_iload_n hx hb gX12_taken_4.2.2.2.2.2.2.2.1 rfl (lv_at3 hl) ?_
              refine lv_icmp_eq (tgt := 95) hx hb gX12_taken_4.2.2.2.2.2.2.2.2.1 (by decide) (fun c_84_5550 => ?_) (fun c_84_5550 => ?_)
              · refine lv_iload_n hx hb gX12_taken_5.2.2.2.1 rfl (lv_at0 hl) ?_
                refine lv_iload_n hx hb gX12_taken_5.2.2.2.2.1 rfl (lv_at3 hl) ?_
                refine lv_icmp_ne (tgt := 109) hx hb gX12_taken_5.2.2.2.2.2.1 (by decide) (fun c9 => absurd (c_84_5550) c9) (fun _ => ?_)
                refine lv_aload_n hx hb gX12_taken_5.2.2.2.2.2.2.1 rfl (lv_at1 hl) ?_
                refine gf_X12_75 hC rfl hK hP 0 rfl rfl gX12_taken_5.2.2.2.2.2.2.2.1 ?_
                refine lv_iload_n hx hb gX12_taken_5.2.2.2.2.2.2.2.2.1 rfl (lv_at2 hl) ?_
                refine aldN hC hK hP 3 rfl (k := jt) (by omega) (Nat.le_of_ble_eq_true rfl) (v := fnsf jt) rfl gX12_taken_5.2.2.2.2.2.2.2.2.2 ?_
                refine lv_goto (tgt := 111) hx hb gX12_taken_6.1 (by decide) ?_
                refine toQ hQ0 ?_
                exact RP (v := fnsf jt) hC ((by first | rfl | (simp only [nI_clamp (n := jt) (by omega), ifc_t ekq, ifc_t hkq, ifc_t ek8, ifc_t hk8, ifc_t ek9, ifc_t hk9, ifc_t hN, ifc_t a5480, ifc_f a5482, ifc_t a5536, ifc_f c_37_5537, ifc_f c_84_5547, ifc_t c_84_5550, ifc_t (q := Wi x2 0 6 ∨ Wi x2 10 14) (Or.inr a5536), a5539, ifc_f (q := (2 : Int32) < 0) (by decide), ifc_t (q := UNl (2 : Int32).toNatClampNeg x2) (show UNl 2 x2 from Or.inr (c_84_5550.symm))]; done) | (simp only [nI_clamp (n := jt) (by omega), ifc_t ekq, ifc_t hkq, ifc_t ek8, ifc_t hk8, ifc_t ek9, ifc_t hk9, ifc_t hN, ifc_t a5480, ifc_f a5482, ifc_t a5536, ifc_f c_37_5537, ifc_f c_84_5547, ifc_t c_84_5550, ifc_t (q := Wi x2 0 6 ∨ Wi x2 10 14) (Or.inr a5536), a5539, ifc_f (q := (2 : Int32) < 0) (by decide), ifc_t (q := UNl (2 : Int32).toNatClampNeg x2) (show UNl 2 x2 from Or.inr (c_84_5550.symm))]; rfl))) rfl gX12_taken_6.2.2
              · refine lv_iload_n hx hb gX12_taken_4.2.2.2.2.2.2.2.2.2 rfl (lv_at0 hl) ?_
                refine pS hC hK hl (m_above0 l G) si_X12_348 rfl rfl (Nat.le_of_ble_eq_true rfl) rm_4_1_1 ⟨by first | exact Nat.le_of_ble_eq_true rfl | exact Nat.zero_le _, by first | exact Nat.le_of_ble_eq_true rfl | exact Nat.zero_le _⟩ gX12_taken_5.1 (Keqr ?_)
                refine lv_istore_n (lv' := [(3, .int (-1)), (0, .ref h0), (1, .int (nI jt)), (2, .int x2)]) hx hb gX12_taken_5.2.1 rfl hl (by decide) rfl (fun ls hl => ?_)
                refine lv_goto (tgt := 78) hx hb gX12_taken_5.2.2.1 (by decide) ?_
                refine lv_iload_n hx hb gX12_taken_4.2.2.2.2.1 rfl (lv_at0 hl) ?_
                refine lv_if_lt (tgt := 95) hx hb gX12_taken_4.2.2.2.2.2.1 (by decide) (fun _ => ?_) (fun c9 => absurd (by decide) c9)
                refine lv_iload_n hx hb gX12_taken_5.2.2.2.1 rfl (lv_at0 hl) ?_
                refine lv_iload_n hx hb gX12_taken_5.2.2.2.2.1 rfl (lv_at3 hl) ?_
                refine lv_icmp_ne (tgt := 109) hx hb gX12_taken_5.2.2.2.2.2.1 (by decide) (fun c_97_5553 => ?_) (fun c_97_5553 => ?_)
                · refine lv_bipush (v := (-13)) hx hb gX12_taken_6.2.1 (by decide) ?_
                  refine toQ hQ0 ?_
                  exact RP (v := (-13)) hC ((by first | rfl | (simp only [nI_clamp (n := jt) (by omega), ifc_t ekq, ifc_t hkq, ifc_t ek8, ifc_t hk8, ifc_t ek9, ifc_t hk9, ifc_t hN, ifc_t a5480, ifc_f a5482, ifc_t a5536, ifc_f c_37_5537, ifc_f c_84_5547, ifc_f c_84_5550, ifc_f c_97_5553, ifc_t (q := Wi x2 0 6 ∨ Wi x2 10 14) (Or.inr a5536), a5539, ifc_f (q := (2 : Int32) < 0) (by decide), ifc_f (q := UNl (2 : Int32).toNatClampNeg x2) (fun h9 => (show False from by have h7 : x2 = 2 ∨ x2 = 0 := h9; rcases h7 with h8 | h8 <;> (first | exact c_84_5547 h8.symm | exact c_84_5550 h8.symm)))]; done) | (simp only [nI_clamp (n := jt) (by omega), ifc_t ekq, ifc_t hkq, ifc_t ek8, ifc_t hk8, ifc_t ek9, ifc_t hk9, ifc_t hN, ifc_t a5480, ifc_f a5482, ifc_t a5536, ifc_f c_37_5537, ifc_f c_84_5547, ifc_f c_84_5550, ifc_f c_97_5553, ifc_t (q := Wi x2 0 6 ∨ Wi x2 10 14) (Or.inr a5536), a5539, ifc_f (q := (2 : Int32) < 0) (by decide), ifc_f (q := UNl (2 : Int32).toNatClampNeg x2) (fun h9 => (show False from by have h7 : x2 = 2 ∨ x2 = 0 := h9; rcases h7 with h8 | h8 <;> (first | exact c_84_5547 h8.symm | exact c_84_5550 h8.symm)))]; rfl))) rfl gX12_taken_6.2.2
                · refine lv_aload_n hx hb gX12_taken_5.2.2.2.2.2.2.1 rfl (lv_at1 hl) ?_
                  refine gf_X12_75 hC rfl hK hP 0 rfl rfl gX12_taken_5.2.2.2.2.2.2.2.1 ?_
                  refine lv_iload_n hx hb gX12_taken_5.2.2.2.2.2.2.2.2.1 rfl (lv_at2 hl) ?_
                  refine aldN hC hK hP 3 rfl (k := jt) (by omega) (Nat.le_of_ble_eq_true rfl) (v := fnsf jt) rfl gX12_taken_5.2.2.2.2.2.2.2.2.2 ?_
                  refine lv_goto (tgt := 111) hx hb gX12_taken_6.1 (by decide) ?_
                  refine toQ hQ0 ?_
                  exact RP (v := fnsf jt) hC ((absurd a5536 (by rw [← c_97_5553]; unfold Wi; decide))) rfl gX12_taken_6.2.2
          · refine lv_istore_n (lv' := [(3, .int 3), (0, .ref h0), (1, .int (nI jt)), (2, .int x2)]) hx hb gX12_taken_3.2.2.2.2.2.2.2.2.2 rfl hl (by decide) rfl (fun ls hl => ?_)
            refine lv_iload_n hx hb gX12_taken_4.1 rfl (lv_at0 hl) ?_
            refine lv_if_ge (tgt := 78) hx hb gX12_taken_4.2.1 (by decide) (fun _ => ?_) (fun c9 => absurd (by decide) c9)
            refine lv_iload_n hx hb gX12_taken_4.2.2.2.2.1 rfl (lv_at0 hl) ?_
            refine lv_if_lt (tgt := 95) hx hb gX12_taken_4.2.2.2.2.2.1 (by decide) (fun c9 => absurd c9 (by decide)) (fun _ => ?_)
            refine lv_iload_n hx hb gX12_taken_4.2.2.2.2.2.2.1 rfl (lv_at0 hl) ?_
            refine lv_iload_n hx hb gX12_taken_4.2.2.2.2.2.2.2.1 rfl (lv_at3 hl) ?_
            refine lv_icmp_eq (tgt := 95) hx hb gX12_taken_4.2.2.2.2.2.2.2.2.1 (by decide) (fun c_84_5554 => ?_) (fun c_84_5554 => ?_)
            · refine lv_iload_n hx hb gX12_taken_5.2.2.2.1 rfl (lv_at0 hl) ?_
              refine lv_iload_n hx hb gX12_taken_5.2.2.2.2.1 rfl (lv_at3 hl) ?_
              refine lv_icmp_ne (tgt := 109) hx hb gX12_taken_5.2.2.2.2.2.1 (by decide) (fun c9 => absurd (c_84_5554) c9) (fun _ => ?_)
              refine lv_aload_n hx hb gX12_taken_5.2.2.2.2.2.2.1 rfl (lv_at1 hl) ?_
              refine gf_X12_75 hC rfl hK hP 0 rfl rfl gX12_taken_5.2.2.2.2.2.2.2.1 ?_
              refine lv_iload_n hx hb gX12_taken_5.2.2.2.2.2.2.2.2.1 rfl (lv_at2 hl) ?_
              refine aldN hC hK hP 3 rfl (k := jt) (by omega) (Nat.le_of_ble_eq_true rfl) (v := fnsf jt) rfl gX12_taken_5.2.2.2.2.2.2.2.2.2 ?_
              refine lv_goto (tgt := 111) hx hb gX12_taken_6.1 (by decide) ?_
              refine toQ hQ0 ?_
              exact RP (v := fnsf jt) hC ((by first | rfl | (simp only [nI_clamp (n := jt) (by omega), ifc_t ekq, ifc_t hkq, ifc_t ek8, ifc_t hk8, ifc_t ek9, ifc_t hk9, ifc_t hN, ifc_t a5480, ifc_f a5482, ifc_t a5536, ifc_f c_37_5537, ifc_t c_84_5554, ifc_t (q := Wi x2 0 6 ∨ Wi x2 10 14) (Or.inr a5536), a5539, ifc_f (q := (3 : Int32) < 0) (by decide), ifc_t (q := UNl (3 : Int32).toNatClampNeg x2) (show UNl 3 x2 from Or.inl (c_84_5554.symm))]; done) | (simp only [nI_clamp (n := jt) (by omega), ifc_t ekq, ifc_t hkq, ifc_t ek8, ifc_t hk8, ifc_t ek9, ifc_t hk9, ifc_t hN, ifc_t a5480, ifc_f a5482, ifc_t a5536, ifc_f c_37_5537, ifc_t c_84_5554, ifc_t (q := Wi x2 0 6 ∨ Wi x2 10 14) (Or.inr a5536), a5539, ifc_f (q := (3 : Int32) < 0) (by decide), ifc_t (q := UNl (3 : Int32).toNatClampNeg x2) (show UNl 3 x2 from Or.inl (c_84_5554.symm))]; rfl))) rfl gX12_taken_6.2.2
            · refine lv_iload_n hx hb gX12_taken_4.2.2.2.2.2.2.2.2.2 rfl (lv_at0 hl) ?_
              refine pS hC hK hl (m_above3 l G) si_X12_348 rfl rfl (Nat.le_of_ble_eq_true rfl) rm_4_1_1 ⟨by first | exact Nat.le_of_ble_eq_true rfl | exact Nat.zero_le _, by first | exact Nat.le_of_ble_eq_true rfl | exact Nat.zero_le _⟩ gX12_taken_5.1 (Keqr ?_)
              refine lv_istore_n (lv' := [(3, .int 1), (0, .ref h0), (1, .int (nI jt)), (2, .int x2)]) hx hb gX12_taken_5.2.1 rfl hl (by decide) rfl (fun ls hl => ?_)
              refine lv_goto (tgt := 78) hx hb gX12_taken_5.2.2.1 (by decide) ?_
              refine lv_iload_n hx hb gX12_taken_4.2.2.2.2.1 rfl (lv_at0 hl) ?_
              refine lv_if_lt (tgt := 95) hx hb gX12_taken_4.2.2.2.2.2.1 (by decide) (fun c9 => absurd c9 (by decide)) (fun _ => ?_)
              refine lv_iload_n hx hb gX12_taken_4.2.2.2.2.2.2.1 rfl (lv_at0 hl) ?_
              refine lv_iload_n hx hb gX12_taken_4.2.2.2.2.2.2.2.1 rfl (lv_at3 hl) ?_
              refine lv_icmp_eq (tgt := 95) hx hb gX12_taken_4.2.2.2.2.2.2.2.2.1 (by decide) (fun c_84_5557 => ?_) (fun c_84_5557 => ?_)
              · refine lv_iload_n hx hb gX12_taken_5.2.2.2.1 rfl (lv_at0 hl) ?_
                refine lv_iload_n hx hb gX12_taken_5.2.2.2.2.1 rfl (lv_at3 hl) ?_
                refine lv_icmp_ne (tgt := 109) hx hb gX12_taken_5.2.2.2.2.2.1 (by decide) (fun c9 => absurd (c_84_5557) c9) (fun _ => ?_)
                refine lv_aload_n hx hb gX12_taken_5.2.2.2.2.2.2.1 rfl (lv_at1 hl) ?_
                refine gf_X12_75 hC rfl hK hP 0 rfl rfl gX12_taken_5.2.2.2.2.2.2.2.1 ?_
                refine lv_iload_n hx hb gX12_taken_5.2.2.2.2.2.2.2.2.1 rfl (lv_at2 hl) ?_
                refine aldN hC hK hP 3 rfl (k := jt) (by omega) (Nat.le_of_ble_eq_true rfl) (v := fnsf jt) rfl gX12_taken_5.2.2.2.2.2.2.2.2.2 ?_
                refine lv_goto (tgt := 111) hx hb gX12_taken_6.1 (by decide) ?_
                refine toQ hQ0 ?_
                exact RP (v := fnsf jt) hC ((by first | rfl | (simp only [nI_clamp (n := jt) (by omega), ifc_t ekq, ifc_t hkq, ifc_t ek8, ifc_t hk8, ifc_t ek9, ifc_t hk9, ifc_t hN, ifc_t a5480, ifc_f a5482, ifc_t a5536, ifc_f c_37_5537, ifc_f c_84_5554, ifc_t c_84_5557, ifc_t (q := Wi x2 0 6 ∨ Wi x2 10 14) (Or.inr a5536), a5539, ifc_f (q := (3 : Int32) < 0) (by decide), ifc_t (q := UNl (3 : Int32).toNatClampNeg x2) (show UNl 3 x2 from Or.inr (Or.inl (c_84_5557.symm)))]; done) | (simp only [nI_clamp (n := jt) (by omega), ifc_t ekq, ifc_t hkq, ifc_t ek8, ifc_t hk8, ifc_t ek9, ifc_t hk9, ifc_t hN, ifc_t a5480, ifc_f a5482, ifc_t a5536, ifc_f c_37_5537, ifc_f c_84_5554, ifc_t c_84_5557, ifc_t (q := Wi x2 0 6 ∨ Wi x2 10 14) (Or.inr a5536), a5539, ifc_f (q := (3 : Int32) < 0) (by decide), ifc_t (q := UNl (3 : Int32).toNatClampNeg x2) (show UNl 3 x2 from Or.inr (Or.inl (c_84_5557.symm)))]; rfl))) rfl gX12_taken_6.2.2
              · refine lv_iload_n hx hb gX12_taken_4.2.2.2.2.2.2.2.2.2 rfl (lv_at0 hl) ?_
                refine pS hC hK hl (m_above1 l G) si_X12_348 rfl rfl (Nat.le_of_ble_eq_true rfl) rm_4_1_1 ⟨by first | exact Nat.le_of_ble_eq_true rfl | exact Nat.zero_le _, by first | exact Nat.le_of_ble_eq_true rfl | exact Nat.zero_le _⟩ gX12_taken_5.1 (Keqr ?_)
                refine lv_istore_n (lv' := [(3, .int 0), (0, .ref h0), (1, .int (nI jt)), (2, .int x2)]) hx hb gX12_taken_5.2.1 rfl hl (by decide) rfl (fun ls hl => ?_)
                refine lv_goto (tgt := 78) hx hb gX12_taken_5.2.2.1 (by decide) ?_
                refine lv_iload_n hx hb gX12_taken_4.2.2.2.2.1 rfl (lv_at0 hl) ?_
                refine lv_if_lt (tgt := 95) hx hb gX12_taken_4.2.2.2.2.2.1 (by decide) (fun c9 => absurd c9 (by decide)) (fun _ => ?_)
                refine lv_iload_n hx hb gX12_taken_4.2.2.2.2.2.2.1 rfl (lv_at0 hl) ?_
                refine lv_iload_n hx hb gX12_taken_4.2.2.2.2.2.2.2.1 rfl (lv_at3 hl) ?_
                refine lv_icmp_eq (tgt := 95) hx hb gX12_taken_4.2.2.2.2.2.2.2.2.1 (by decide) (fun c_84_5560 => ?_) (fun c_84_5560 => ?_)
                · refine lv_iload_n hx hb gX12_taken_5.2.2.2.1 rfl (lv_at0 hl) ?_
                  refine lv_iload_n hx hb gX12_taken_5.2.2.2.2.1 rfl (lv_at3 hl) ?_
                  refine lv_icmp_ne (tgt := 109) hx hb gX12_taken_5.2.2.2.2.2.1 (by decide) (fun c9 => absurd (c_84_5560) c9) (fun _ => ?_)
                  refine lv_aload_n hx hb gX12_taken_5.2.2.2.2.2.2.1 rfl (lv_at1 hl) ?_
                  refine gf_X12_75 hC rfl hK hP 0 rfl rfl gX12_taken_5.2.2.2.2.2.2.2.1 ?_
                  refine lv_iload_n hx hb gX12_taken_5.2.2.2.2.2.2.2.2.1 rfl (lv_at2 hl) ?_
                  refine aldN hC hK hP 3 rfl (k := jt) (by omega) (Nat.le_of_ble_eq_true rfl) (v := fnsf jt) rfl gX12_taken_5.2.2.2.2.2.2.2.2.2 ?_
                  refine lv_goto (tgt := 111) hx hb gX12_taken_6.1 (by decide) ?_
                  refine toQ hQ0 ?_
                  exact RP (v := fnsf jt) hC ((by first | rfl | (simp only [nI_clamp (n := jt) (by omega), ifc_t ekq, ifc_t hkq, ifc_t ek8, ifc_t hk8, ifc_t ek9, ifc_t hk9, ifc_t hN, ifc_t a5480, ifc_f a5482, ifc_t a5536, ifc_f c_37_5537, ifc_f c_84_5554, ifc_f c_84_5557, ifc_t c_84_5560, ifc_t (q := Wi x2 0 6 ∨ Wi x2 10 14) (Or.inr a5536), a5539, ifc_f (q := (3 : Int32) < 0) (by decide), ifc_t (q := UNl (3 : Int32).toNatClampNeg x2) (show UNl 3 x2 from Or.inr (Or.inr (c_84_5560.symm)))]; done) | (simp only [nI_clamp (n := jt) (by omega), ifc_t ekq, ifc_t hkq, ifc_t ek8, ifc_t hk8, ifc_t ek9, ifc_t hk9, ifc_t hN, ifc_t a5480, ifc_f a5482, ifc_t a5536, ifc_f c_37_5537, ifc_f c_84_5554, ifc_f c_84_5557, ifc_t c_84_5560, ifc_t (q := Wi x2 0 6 ∨ Wi x2 10 14) (Or.inr a5536), a5539, ifc_f (q := (3 : Int32) < 0) (by decide), ifc_t (q := UNl (3 : Int32).toNatClampNeg x2) (show UNl 3 x2 from Or.inr (Or.inr (c_84_5560.symm)))]; rfl))) rfl gX12_taken_6.2.2
                · refine lv_iload_n hx hb gX12_taken_4.2.2.2.2.2.2.2.2.2 rfl (lv_at0 hl) ?_
                  refine pS hC hK hl (m_above0 l G) si_X12_348 rfl rfl (Nat.le_of_ble_eq_true rfl) rm_4_1_1 ⟨by first | exact Nat.le_of_ble_eq_true rfl | exact Nat.zero_le _, by first | exact Nat.le_of_ble_eq_true rfl | exact Nat.zero_le _⟩ gX12_taken_5.1 (Keqr ?_)
                  refine lv_istore_n (lv' := [(3, .int (-1)), (0, .ref h0), (1, .int (nI jt)), (2, .int x2)]) hx hb gX12_taken_5.2.1 rfl hl (by decide) rfl (fun ls hl => ?_)
                  refine lv_goto (tgt := 78) hx hb gX12_taken_5.2.2.1 (by decide) ?_
                  refine lv_iload_n hx hb gX12_taken_4.2.2.2.2.1 rfl (lv_at0 hl) ?_
                  refine lv_if_lt (tgt := 95) hx hb gX12_taken_4.2.2.2.2.2.1 (by decide) (fun _ => ?_) (fun c9 => absurd (by decide) c9)
                  refine lv_iload_n hx hb gX12_taken_5.2.2.2.1 rfl (lv_at0 hl) ?_
                  refine lv_iload_n hx hb gX12_taken_5.2.2.2.2.1 rfl (lv_at3 hl) ?_
                  refine lv_icmp_ne (tgt := 109) hx hb gX12_taken_5.2.2.2.2.2.1 (by decide) (fun c_97_5563 => ?_) (fun c_97_5563 => ?_)
                  · refine lv_bipush (v := (-13)) hx hb gX12_taken_6.2.1 (by decide) ?_
                    refine toQ hQ0 ?_
                    exact RP (v := (-13)) hC ((by first | rfl | (simp only [nI_clamp (n := jt) (by omega), ifc_t ekq, ifc_t hkq, ifc_t ek8, ifc_t hk8, ifc_t ek9, ifc_t hk9, ifc_t hN, ifc_t a5480, ifc_f a5482, ifc_t a5536, ifc_f c_37_5537, ifc_f c_84_5554, ifc_f c_84_5557, ifc_f c_84_5560, ifc_f c_97_5563, ifc_t (q := Wi x2 0 6 ∨ Wi x2 10 14) (Or.inr a5536), a5539, ifc_f (q := (3 : Int32) < 0) (by decide), ifc_f (q := UNl (3 : Int32).toNatClampNeg x2) (fun h9 => (show False from by have h7 : x2 = 3 ∨ x2 = 1 ∨ x2 = 0 := h9; rcases h7 with h8 | h8 | h8 <;> (first | exact c_84_5554 h8.symm | exact c_84_5557 h8.symm | exact c_84_5560 h8.symm)))]; done) | (simp only [nI_clamp (n := jt) (by omega), ifc_t ekq, ifc_t hkq, ifc_t ek8, ifc_t hk8, ifc_t ek9, ifc_t hk9, ifc_t hN, ifc_t a5480, ifc_f a5482, ifc_t a5536, ifc_f c_37_5537, ifc_f c_84_5554, ifc_f c_84_5557, ifc_f c_84_5560, ifc_f c_97_5563, ifc_t (q := Wi x2 0 6 ∨ Wi x2 10 14) (Or.inr a5536), a5539, ifc_f (q := (3 : Int32) < 0) (by decide), ifc_f (q := UNl (3 : Int32).toNatClampNeg x2) (fun h9 => (show False from by have h7 : x2 = 3 ∨ x2 = 1 ∨ x2 = 0 := h9; rcases h7 with h8 | h8 | h8 <;> (first | exact c_84_5554 h8.symm | exact c_84_5557 h8.symm | exact c_84_5560 h8.symm)))]; rfl))) rfl gX12_taken_6.2.2
                  · refine lv_aload_n hx hb gX12_taken_5.2.2.2.2.2.2.1 rfl (lv_at1 hl) ?_
                    refine gf_X12_75 hC rfl hK hP 0 rfl rfl gX12_taken_5.2.2.2.2.2.2.2.1 ?_
                    refine lv_iload_n hx hb gX12_taken_5.2.2.2.2.2.2.2.2.1 rfl (lv_at2 hl) ?_
                    refine aldN hC hK hP 3 rfl (k := jt) (by omega) (Nat.le_of_ble_eq_true rfl) (v := fnsf jt) rfl gX12_taken_5.2.2.2.2.2.2.2.2.2 ?_
                    refine lv_goto (tgt := 111) hx hb gX12_taken_6.1 (by decide) ?_
                    refine toQ hQ0 ?_
                    exact RP (v := fnsf jt) hC ((absurd a5536 (by rw [← c_97_5563]; unfold Wi; decide))) rfl gX12_taken_6.2.2
          · refine lv_istore_n (lv' := [(3, .int 4), (0, .ref h0), (1, .int (nI jt)), (2, .int x2)]) hx hb gX12_taken_3.2.2.2.2.2.2.2.2.2 rfl hl (by decide) rfl (fun ls hl => ?_)
            refine lv_iload_n hx hb gX12_taken_4.1 rfl (lv_at0 hl) ?_
            refine lv_if_ge (tgt := 78) hx hb gX12_taken_4.2.1 (by decide) (fun _ => ?_) (fun c9 => absurd (by decide) c9)
            refine lv_iload_n hx hb gX12_taken_4.2.2.2.2.1 rfl (lv_at0 hl) ?_
            refine lv_if_lt (tgt := 95) hx hb gX12_taken_4.2.2.2.2.2.1 (by decide) (fun c9 => absurd c9 (by decide)) (fun _ => ?_)
            refine lv_iload_n hx hb gX12_taken_4.2.2.2.2.2.2.1 rfl (lv_at0 hl) ?_
            refine lv_iload_n hx hb gX12_taken_4.2.2.2.2.2.2.2.1 rfl (lv_at3 hl) ?_
            refine lv_icmp_eq (tgt := 95) hx hb gX12_taken_4.2.2.2.2.2.2.2.2.1 (by decide) (fun c_84_5564 => ?_) (fun c_84_5564 => ?_)
            · refine lv_iload_n hx hb gX12_taken_5.2.2.2.1 rfl (lv_at0 hl) ?_
              refine lv_iload_n hx hb gX12_taken_5.2.2.2.2.1 rfl (lv_at3 hl) ?_
              refine lv_icmp_ne (tgt := 109) hx hb gX12_taken_5.2.2.2.2.2.1 (by decide) (fun c9 => absurd (c_84_5564) c9) (fun _ => ?_)
              refine lv_aload_n hx hb gX12_taken_5.2.2.2.2.2.2.1 rfl (lv_at1 hl) ?_
              refine gf_X12_75 hC rfl hK hP 0 rfl rfl gX12_taken_5.2.2.2.2.2.2.2.1 ?_
              refine lv_iload_n hx hb gX12_taken_5.2.2.2.2.2.2.2.2.1 rfl (lv_at2 hl) ?_
              refine aldN hC hK hP 3 rfl (k := jt) (by omega) (Nat.le_of_ble_eq_true rfl) (v := fnsf jt) rfl gX12_taken_5.2.2.2.2.2.2.2.2.2 ?_
              refine lv_goto (tgt := 111) hx hb gX12_taken_6.1 (by decide) ?_
              refine toQ hQ0 ?_
              exact RP (v := fnsf jt) hC ((by first | rfl | (simp only [nI_clamp (n := jt) (by omega), ifc_t ekq, ifc_t hkq, ifc_t ek8, ifc_t hk8, ifc_t ek9, ifc_t hk9, ifc_t hN, ifc_t a5480, ifc_f a5482, ifc_t a5536, ifc_f c_37_5537, ifc_t c_84_5564, ifc_t (q := Wi x2 0 6 ∨ Wi x2 10 14) (Or.inr a5536), a5539, ifc_f (q := (4 : Int32) < 0) (by decide), ifc_t (q := UNl (4 : Int32).toNatClampNeg x2) (show UNl 4 x2 from Or.inl (c_84_5564.symm))]; done) | (simp only [nI_clamp (n := jt) (by omega), ifc_t ekq, ifc_t hkq, ifc_t ek8, ifc_t hk8, ifc_t ek9, ifc_t hk9, ifc_t hN, ifc_t a5480, ifc_f a5482, ifc_t a5536, ifc_f c_37_5537, ifc_t c_84_5564, ifc_t (q := Wi x2 0 6 ∨ Wi x2 10 14) (Or.inr a5536), a5539, ifc_f (q := (4 : Int32) < 0) (by decide), ifc_t (q := UNl (4 : Int32).toNatClampNeg x2) (show UNl 4 x2 from Or.inl (c_84_5564.symm))]; rfl))) rfl gX12_taken_6.2.2
            · refine lv_iload_n hx hb gX12_taken_4.2.2.2.2.2.2.2.2.2 rfl (lv_at0 hl) ?_
              refine pS hC hK hl (m_above4 l G) si_X12_348 rfl rfl (Nat.le_of_ble_eq_true rfl) rm_4_1_1 ⟨by first | exact Nat.le_of_ble_eq_true rfl | exact Nat.zero_le _, by first | exact Nat.le_of_ble_eq_true rfl | exact Nat.zero_le _⟩ gX12_taken_5.1 (Keqr ?_)
              refine lv_istore_n (lv' := [(3, .int 0), (0, .ref h0), (1, .int (nI jt)), (2, .int x2)]) hx hb gX12_taken_5.2.1 rfl hl (by decide) rfl (fun ls hl => ?_)
              refine lv_goto (tgt := 78) hx hb gX12_taken_5.2.2.1 (by decide) ?_
              refine lv_iload_n hx hb gX12_taken_4.2.2.2.2.1 rfl (lv_at0 hl) ?_
              refine lv_if_lt (tgt := 95) hx hb gX12_taken_4.2.2.2.2.2.1 (by decide) (fun c9 => absurd c9 (by decide)) (fun _ => ?_)
              refine lv_iload_n hx hb gX12_taken_4.2.2.2.2.2.2.1 rfl (lv_at0 hl) ?_
              refine lv_iload_n hx hb gX12_taken_4.2.2.2.2.2.2.2.1 rfl (lv_at3 hl) ?_
              refine lv_icmp_eq (tgt := 95) hx hb gX12_taken_4.2.2.2.2.2.2.2.2.1 (by decide) (fun c_84_5567 => ?_) (fun c_84_5567 => ?_)
              · refine lv_iload_n hx hb gX12_taken_5.2.2.2.1 rfl (lv_at0 hl) ?_
                refine lv_iload_n hx hb gX12_taken_5.2.2.2.2.1 rfl (lv_at3 hl) ?_
                refine lv_icmp_ne (tgt := 109) hx hb gX12_taken_5.2.2.2.2.2.1 (by decide) (fun c9 => absurd (c_84_5567) c9) (fun _ => ?_)
                refine lv_aload_n hx hb gX12_taken_5.2.2.2.2.2.2.1 rfl (lv_at1 hl) ?_
                refine gf_X12_75 hC rfl hK hP 0 rfl rfl gX12_taken_5.2.2.2.2.2.2.2.1 ?_
                refine lv_iload_n hx hb gX12_taken_5.2.2.2.2.2.2.2.2.1 rfl (lv_at2 hl) ?_
                refine aldN hC hK hP 3 rfl (k := jt) (by omega) (Nat.le_of_ble_eq_true rfl) (v := fnsf jt) rfl gX12_taken_5.2.2.2.2.2.2.2.2.2 ?_
                refine lv_goto (tgt := 111) hx hb gX12_taken_6.1 (by decide) ?_
                refine toQ hQ0 ?_
                exact RP (v := fnsf jt) hC ((by first | rfl | (simp only [nI_clamp (n := jt) (by omega), ifc_t ekq, ifc_t hkq, ifc_t ek8, ifc_t hk8, ifc_t ek9, ifc_t hk9, ifc_t hN, ifc_t a5480, ifc_f a5482, ifc_t a5536, ifc_f c_37_5537, ifc_f c_84_5564, ifc_t c_84_5567, ifc_t (q := Wi x2 0 6 ∨ Wi x2 10 14) (Or.inr a5536), a5539, ifc_f (q := (4 : Int32) < 0) (by decide), ifc_t (q := UNl (4 : Int32).toNatClampNeg x2) (show UNl 4 x2 from Or.inr (c_84_5567.symm))]; done) | (simp only [nI_clamp (n := jt) (by omega), ifc_t ekq, ifc_t hkq, ifc_t ek8, ifc_t hk8, ifc_t ek9, ifc_t hk9, ifc_t hN, ifc_t a5480, ifc_f a5482, ifc_t a5536, ifc_f c_37_5537, ifc_f c_84_5564, ifc_t c_84_5567, ifc_t (q := Wi x2 0 6 ∨ Wi x2 10 14) (Or.inr a5536), a5539, ifc_f (q := (4 : Int32) < 0) (by decide), ifc_t (q := UNl (4 : Int32).toNatClampNeg x2) (show UNl 4 x2 from Or.inr (c_84_5567.symm))]; rfl))) rfl gX12_taken_6.2.2
              · refine lv_iload_n hx hb gX12_taken_4.2.2.2.2.2.2.2.2.2 rfl (lv_at0 hl) ?_
                refine pS hC hK hl (m_above0 l G) si_X12_348 rfl rfl (Nat.le_of_ble_eq_true rfl) rm_4_1_1 ⟨by first | exact Nat.le_of_ble_eq_true rfl | exact Nat.zero_le _, by first | exact Nat.le_of_ble_eq_true rfl | exact Nat.zero_le _⟩ gX12_taken_5.1 (Keqr ?_)
                refine lv_istore_n (lv' := [(3, .int (-1)), (0, .ref h0), (1, .int (nI jt)), (2, .int x2)]) hx hb gX12_taken_5.2.1 rfl hl (by decide) rfl (fun ls hl => ?_)
                refine lv_goto (tgt := 78) hx hb gX12_taken_5.2.2.1 (by decide) ?_
                refine lv_iload_n hx hb gX12_taken_4.2.2.2.2.1 rfl (lv_at0 hl) ?_
                refine lv_if_lt (tgt := 95) hx hb gX12_taken_4.2.2.2.2.2.1 (by decide) (fun _ => ?_) (fun c9 => absurd (by decide) c9)
                refine lv_iload_n hx hb gX12_taken_5.2.2.2.1 rfl (lv_at0 hl) ?_
                refine lv_iload_n hx hb gX12_taken_5.2.2.2.2.1 rfl (lv_at3 hl) ?_
                refine lv_icmp_ne (tgt := 109) hx hb gX12_taken_5.2.2.2.2.2.1 (by decide) (fun c_97_5570 => ?_) (fun c_97_5570 => ?_)
                · refine lv_bipush (v := (-13)) hx hb gX12_taken_6.2.1 (by decide) ?_
                  refine toQ hQ0 ?_
                  exact RP (v := (-13)) hC ((by first | rfl | (simp only [nI_clamp (n := jt) (by omega), ifc_t ekq, ifc_t hkq, ifc_t ek8, ifc_t hk8, ifc_t ek9, ifc_t hk9, ifc_t hN, ifc_t a5480, ifc_f a5482, ifc_t a5536, ifc_f c_37_5537, ifc_f c_84_5564, ifc_f c_84_5567, ifc_f c_97_5570, ifc_t (q := Wi x2 0 6 ∨ Wi x2 10 14) (Or.inr a5536), a5539, ifc_f (q := (4 : Int32) < 0) (by decide), ifc_f (q := UNl (4 : Int32).toNatClampNeg x2) (fun h9 => (show False from by have h7 : x2 = 4 ∨ x2 = 0 := h9; rcases h7 with h8 | h8 <;> (first | exact c_84_5564 h8.symm | exact c_84_5567 h8.symm)))]; done) | (simp only [nI_clamp (n := jt) (by omega), ifc_t ekq, ifc_t hkq, ifc_t ek8, ifc_t hk8, ifc_t ek9, ifc_t hk9, ifc_t hN, ifc_t a5480, ifc_f a5482, ifc_t a5536, ifc_f c_37_5537, ifc_f c_84_5564, ifc_f c_84_5567, ifc_f c_97_5570, ifc_t (q := Wi x2 0 6 ∨ Wi x2 10 14) (Or.inr a5536), a5539, ifc_f (q := (4 : Int32) < 0) (by decide), ifc_f (q := UNl (4 : Int32).toNatClampNeg x2) (fun h9 => (show False from by have h7 : x2 = 4 ∨ x2 = 0 := h9; rcases h7 with h8 | h8 <;> (first | exact c_84_5564 h8.symm | exact c_84_5567 h8.symm)))]; rfl))) rfl gX12_taken_6.2.2
                · refine lv_aload_n hx hb gX12_taken_5.2.2.2.2.2.2.1 rfl (lv_at1 hl) ?_
                  refine gf_X12_75 hC rfl hK hP 0 rfl rfl gX12_taken_5.2.2.2.2.2.2.2.1 ?_
                  refine lv_iload_n hx hb gX12_taken_5.2.2.2.2.2.2.2.2.1 rfl (lv_at2 hl) ?_
                  refine aldN hC hK hP 3 rfl (k := jt) (by omega) (Nat.le_of_ble_eq_true rfl) (v := fnsf jt) rfl gX12_taken_5.2.2.2.2.2.2.2.2.2 ?_
                  refine lv_goto (tgt := 111) hx hb gX12_taken_6.1 (by decide) ?_
                  refine toQ hQ0 ?_
                  exact RP (v := fnsf jt) hC ((absurd a5536 (by rw [← c_97_5570]; unfold Wi; decide))) rfl gX12_taken_6.2.2
          · refine lv_istore_n (lv' := [(3, .int 5), (0, .ref h0), (1, .int (nI jt)), (2, .int x2)]) hx hb gX12_taken_3.2.2.2.2.2.2.2.2.2 rfl hl (by decide) rfl (fun ls hl => ?_)
            refine lv_iload_n hx hb gX12_taken_4.1 rfl (lv_at0 hl) ?_
            refine lv_if_ge (tgt := 78) hx hb gX12_taken_4.2.1 (by decide) (fun _ => ?_) (fun c9 => absurd (by decide) c9)
            refine lv_iload_n hx hb gX12_taken_4.2.2.2.2.1 rfl (lv_at0 hl) ?_
            refine lv_if_lt (tgt := 95) hx hb gX12_taken_4.2.2.2.2.2.1 (by decide) (fun c9 => absurd c9 (by decide)) (fun _ => ?_)
            refine lv_iload_n hx hb gX12_taken_4.2.2.2.2.2.2.1 rfl (lv_at0 hl) ?_
            refine lv_iload_n hx hb gX12_taken_4.2.2.2.2.2.2.2.1 rfl (lv_at3 hl) ?_
            refine lv_icmp_eq (tgt := 95) hx hb gX12_taken_4.2.2.2.2.2.2.2.2.1 (by decide) (fun c_84_5571 => ?_) (fun c_84_5571 => ?_)
            · refine lv_iload_n hx hb gX12_taken_5.2.2.2.1 rfl (lv_at0 hl) ?_
              refine lv_iload_n hx hb gX12_taken_5.2.2.2.2.1 rfl (lv_at3 hl) ?_
              refine lv_icmp_ne (tgt := 109) hx hb gX12_taken_5.2.2.2.2.2.1 (by decide) (fun c9 => absurd (c_84_5571) c9) (fun _ => ?_)
              refine lv_aload_n hx hb gX12_taken_5.2.2.2.2.2.2.1 rfl (lv_at1 hl) ?_
              refine gf_X12_75 hC rfl hK hP 0 rfl rfl gX12_taken_5.2.2.2.2.2.2.2.1 ?_
              refine lv_iload_n hx hb gX12_taken_5.2.2.2.2.2.2.2.2.1 rfl (lv_at2 hl) ?_
              refine aldN hC hK hP 3 rfl (k := jt) (by omega) (Nat.le_of_ble_eq_true rfl) (v := fnsf jt) rfl gX12_taken_5.2.2.2.2.2.2.2.2.2 ?_
              refine lv_goto (tgt := 111) hx hb gX12_taken_6.1 (by decide) ?_
              refine toQ hQ0 ?_
              exact RP (v := fnsf jt) hC ((by first | rfl | (simp only [nI_clamp (n := jt) (by omega), ifc_t ekq, ifc_t hkq, ifc_t ek8, ifc_t hk8, ifc_t ek9, ifc_t hk9, ifc_t hN, ifc_t a5480, ifc_f a5482, ifc_t a5536, ifc_f c_37_5537, ifc_t c_84_5571, ifc_t (q := Wi x2 0 6 ∨ Wi x2 10 14) (Or.inr a5536), a5539, ifc_f (q := (5 : Int32) < 0) (by decide), ifc_t (q := UNl (5 : Int32).toNatClampNeg x2) (show UNl 5 x2 from Or.inl (c_84_5571.symm))]; done) | (simp only [nI_clamp (n := jt) (by omega), ifc_t ekq, ifc_t hkq, ifc_t ek8, ifc_t hk8, ifc_t ek9, ifc_t hk9, ifc_t hN, ifc_t a5480, ifc_f a5482, ifc_t a5536, ifc_f c_37_5537, ifc_t c_84_5571, ifc_t (q := Wi x2 0 6 ∨ Wi x2 10 14) (Or.inr a5536), a5539, ifc_f (q := (5 : Int32) < 0) (by decide), ifc_t (q := UNl (5 : Int32).toNatClampNeg x2) (show UNl 5 x2 from Or.inl (c_84_5571.symm))]; rfl))) rfl gX12_taken_6.2.2
            · refine lv_iload_n hx hb gX12_taken_4.2.2.2.2.2.2.2.2.2 rfl (lv_at0 hl) ?_
              refine pS hC hK hl (m_above5 l G) si_X12_348 rfl rfl (Nat.le_of_ble_eq_true rfl) rm_4_1_1 ⟨by first | exact Nat.le_of_ble_eq_true rfl | exact Nat.zero_le _, by first | exact Nat.le_of_ble_eq_true rfl | exact Nat.zero_le _⟩ gX12_taken_5.1 (Keqr ?_)
              refine lv_istore_n (lv' := [(3, .int 4), (0, .ref h0), (1, .int (nI jt)), (2, .int x2)]) hx hb gX12_taken_5.2.1 rfl hl (by decide) rfl (fun ls hl => ?_)
              refine lv_goto (tgt := 78) hx hb gX12_taken_5.2.2.1 (by decide) ?_
              refine lv_iload_n hx hb gX12_taken_4.2.2.2.2.1 rfl (lv_at0 hl) ?_
              refine lv_if_lt (tgt := 95) hx hb gX12_taken_4.2.2.2.2.2.1 (by decide) (fun c9 => absurd c9 (by decide)) (fun _ => ?_)
              refine lv_iload_n hx hb gX12_taken_4.2.2.2.2.2.2.1 rfl (lv_at0 hl) ?_
              refine lv_iload_n hx hb gX12_taken_4.2.2.2.2.2.2.2.1 rfl (lv_at3 hl) ?_
              refine lv_icmp_eq (tgt := 95) hx hb gX12_taken_4.2.2.2.2.2.2.2.2.1 (by decide) (fun c_84_5574 => ?_) (fun c_84_5574 => ?_)
              · refine lv_iload_n hx hb gX12_taken_5.2.2.2.1 rfl (lv_at0 hl) ?_
                refine lv_iload_n hx hb gX12_taken_5.2.2.2.2.1 rfl (lv_at3 hl) ?_
                refine lv_icmp_ne (tgt := 109) hx hb gX12_taken_5.2.2.2.2.2.1 (by decide) (fun c9 => absurd (c_84_5574) c9) (fun _ => ?_)
                refine lv_aload_n hx hb gX12_taken_5.2.2.2.2.2.2.1 rfl (lv_at1 hl) ?_
                refine gf_X12_75 hC rfl hK hP 0 rfl rfl gX12_taken_5.2.2.2.2.2.2.2.1 ?_
                refine lv_iload_n hx hb gX12_taken_5.2.2.2.2.2.2.2.2.1 rfl (lv_at2 hl) ?_
                refine aldN hC hK hP 3 rfl (k := jt) (by omega) (Nat.le_of_ble_eq_true rfl) (v := fnsf jt) rfl gX12_taken_5.2.2.2.2.2.2.2.2.2 ?_
                refine lv_goto (tgt := 111) hx hb gX12_taken_6.1 (by decide) ?_
                refine toQ hQ0 ?_
                exact RP (v := fnsf jt) hC ((by first | rfl | (simp only [nI_clamp (n := jt) (by omega), ifc_t ekq, ifc_t hkq, ifc_t ek8, ifc_t hk8, ifc_t ek9, ifc_t hk9, ifc_t hN, ifc_t a5480, ifc_f a5482, ifc_t a5536, ifc_f c_37_5537, ifc_f c_84_5571, ifc_t c_84_5574, ifc_t (q := Wi x2 0 6 ∨ Wi x2 10 14) (Or.inr a5536), a5539, ifc_f (q := (5 : Int32) < 0) (by decide), ifc_t (q := UNl (5 : Int32).toNatClampNeg x2) (show UNl 5 x2 from Or.inr (Or.inl (c_84_5574.symm)))]; done) | (simp only [nI_clamp (n := jt) (by omega), ifc_t ekq, ifc_t hkq, ifc_t ek8, ifc_t hk8, ifc_t ek9, ifc_t hk9, ifc_t hN, ifc_t a5480, ifc_f a5482, ifc_t a5536, ifc_f c_37_5537, ifc_f c_84_5571, ifc_t c_84_5574, ifc_t (q := Wi x2 0 6 ∨ Wi x2 10 14) (Or.inr a5536), a5539, ifc_f (q := (5 : Int32) < 0) (by decide), ifc_t (q := UNl (5 : Int32).toNatClampNeg x2) (show UNl 5 x2 from Or.inr (Or.inl (c_84_5574.symm)))]; rfl))) rfl gX12_taken_6.2.2
              · refine lv_iload_n hx hb gX12_taken_4.2.2.2.2.2.2.2.2.2 rfl (lv_at0 hl) ?_
                refine pS hC hK hl (m_above4 l G) si_X12_348 rfl rfl (Nat.le_of_ble_eq_true rfl) rm_4_1_1 ⟨by first | exact Nat.le_of_ble_eq_true rfl | exact Nat.zero_le _, by first | exact Nat.le_of_ble_eq_true rfl | exact Nat.zero_le _⟩ gX12_taken_5.1 (Keqr ?_)
                refine lv_istore_n (lv' := [(3, .int 0), (0, .ref h0), (1, .int (nI jt)), (2, .int x2)]) hx hb gX12_taken_5.2.1 rfl hl (by decide) rfl (fun ls hl => ?_)
                refine lv_goto (tgt := 78) hx hb gX12_taken_5.2.2.1 (by decide) ?_
                refine lv_iload_n hx hb gX12_taken_4.2.2.2.2.1 rfl (lv_at0 hl) ?_
                refine lv_if_lt (tgt := 95) hx hb gX12_taken_4.2.2.2.2.2.1 (by decide) (fun c9 => absurd c9 (by decide)) (fun _ => ?_)
                refine lv_iload_n hx hb gX12_taken_4.2.2.2.2.2.2.1 rfl (lv_at0 hl) ?_
                refine lv_iload_n hx hb gX12_taken_4.2.2.2.2.2.2.2.1 rfl (lv_at3 hl) ?_
                refine lv_icmp_eq (tgt := 95) hx hb gX12_taken_4.2.2.2.2.2.2.2.2.1 (by decide) (fun c_84_5577 => ?_) (fun c_84_5577 => ?_)
                · refine lv_iload_n hx hb gX12_taken_5.2.2.2.1 rfl (lv_at0 hl) ?_
                  refine lv_iload_n hx hb gX12_taken_5.2.2.2.2.1 rfl (lv_at3 hl) ?_
                  refine lv_icmp_ne (tgt := 109) hx hb gX12_taken_5.2.2.2.2.2.1 (by decide) (fun c9 => absurd (c_84_5577) c9) (fun _ => ?_)
                  refine lv_aload_n hx hb gX12_taken_5.2.2.2.2.2.2.1 rfl (lv_at1 hl) ?_
                  refine gf_X12_75 hC rfl hK hP 0 rfl rfl gX12_taken_5.2.2.2.2.2.2.2.1 ?_
                  refine lv_iload_n hx hb gX12_taken_5.2.2.2.2.2.2.2.2.1 rfl (lv_at2 hl) ?_
                  refine aldN hC hK hP 3 rfl (k := jt) (by omega) (Nat.le_of_ble_eq_true rfl) (v := fnsf jt) rfl gX12_taken_5.2.2.2.2.2.2.2.2.2 ?_
                  refine lv_goto (tgt := 111) hx hb gX12_taken_6.1 (by decide) ?_
                  refine toQ hQ0 ?_
                  exact RP (v := fnsf jt) hC ((by first | rfl | (simp only [nI_clamp (n := jt) (by omega), ifc_t ekq, ifc_t hkq, ifc_t ek8, ifc_t hk8, ifc_t ek9, ifc_t hk9, ifc_t hN, ifc_t a5480, ifc_f a5482, ifc_t a5536, ifc_f c_37_5537, ifc_f c_84_5571, ifc_f c_84_5574, ifc_t c_84_5577, ifc_t (q := Wi x2 0 6 ∨ Wi x2 10 14) (Or.inr a5536), a5539, ifc_f (q := (5 : Int32) < 0) (by decide), ifc_t (q := UNl (5 : Int32).toNatClampNeg x2) (show UNl 5 x2 from Or.inr (Or.inr (c_84_5577.symm)))]; done) | (simp only [nI_clamp (n := jt) (by omega), ifc_t ekq, ifc_t hkq, ifc_t ek8, ifc_t hk8, ifc_t ek9, ifc_t hk9, ifc_t hN, ifc_t a5480, ifc_f a5482, ifc_t a5536, ifc_f c_37_5537, ifc_f c_84_5571, ifc_f c_84_5574, ifc_t c_84_5577, ifc_t (q := Wi x2 0 6 ∨ Wi x2 10 14) (Or.inr a5536), a5539, ifc_f (q := (5 : Int32) < 0) (by decide), ifc_t (q := UNl (5 : Int32).toNatClampNeg x2) (show UNl 5 x2 from Or.inr (Or.inr (c_84_5577.symm)))]; rfl))) rfl gX12_taken_6.2.2
                · refine lv_iload_n hx hb gX12_taken_4.2.2.2.2.2.2.2.2.2 rfl (lv_at0 hl) ?_
                  refine pS hC hK hl (m_above0 l G) si_X12_348 rfl rfl (Nat.le_of_ble_eq_true rfl) rm_4_1_1 ⟨by first | exact Nat.le_of_ble_eq_true rfl | exact Nat.zero_le _, by first | exact Nat.le_of_ble_eq_true rfl | exact Nat.zero_le _⟩ gX12_taken_5.1 (Keqr ?_)
                  refine lv_istore_n (lv' := [(3, .int (-1)), (0, .ref h0), (1, .int (nI jt)), (2, .int x2)]) hx hb gX12_taken_5.2.1 rfl hl (by decide) rfl (fun ls hl => ?_)
                  refine lv_goto (tgt := 78) hx hb gX12_taken_5.2.2.1 (by decide) ?_
                  refine lv_iload_n hx hb gX12_taken_4.2.2.2.2.1 rfl (lv_at0 hl) ?_
                  refine lv_if_lt (tgt := 95) hx hb gX12_taken_4.2.2.2.2.2.1 (by decide) (fun _ => ?_) (fun c9 => absurd (by decide) c9)
                  refine lv_iload_n hx hb gX12_taken_5.2.2.2.1 rfl (lv_at0 hl) ?_
                  refine lv_iload_n hx hb gX12_taken_5.2.2.2.2.1 rfl (lv_at3 hl) ?_
                  refine lv_icmp_ne (tgt := 109) hx hb gX12_taken_5.2.2.2.2.2.1 (by decide) (fun c_97_5580 => ?_) (fun c_97_5580 => ?_)
                  · refine lv_bipush (v := (-13)) hx hb gX12_taken_6.2.1 (by decide) ?_
                    refine toQ hQ0 ?_
                    exact RP (v := (-13)) hC ((by first | rfl | (simp only [nI_clamp (n := jt) (by omega), ifc_t ekq, ifc_t hkq, ifc_t ek8, ifc_t hk8, ifc_t ek9, ifc_t hk9, ifc_t hN, ifc_t a5480, ifc_f a5482, ifc_t a5536, ifc_f c_37_5537, ifc_f c_84_5571, ifc_f c_84_5574, ifc_f c_84_5577, ifc_f c_97_5580, ifc_t (q := Wi x2 0 6 ∨ Wi x2 10 14) (Or.inr a5536), a5539, ifc_f (q := (5 : Int32) < 0) (by decide), ifc_f (q := UNl (5 : Int32).toNatClampNeg x2) (fun h9 => (show False from by have h7 : x2 = 5 ∨ x2 = 4 ∨ x2 = 0 := h9; rcases h7 with h8 | h8 | h8 <;> (first | exact c_84_5571 h8.symm | exact c_84_5574 h8.symm | exact c_84_5577 h8.symm)))]; done) | (simp only [nI_clamp (n := jt) (by omega), ifc_t ekq, ifc_t hkq, ifc_t ek8, ifc_t hk8, ifc_t ek9, ifc_t hk9, ifc_t hN, ifc_t a5480, ifc_f a5482, ifc_t a5536, ifc_f c_37_5537, ifc_f c_84_5571, ifc_f c_84_5574, ifc_f c_84_5577, ifc_f c_97_5580, ifc_t (q := Wi x2 0 6 ∨ Wi x2 10 14) (Or.inr a5536), a5539, ifc_f (q := (5 : Int32) < 0) (by decide), ifc_f (q := UNl (5 : Int32).toNatClampNeg x2) (fun h9 => (show False from by have h7 : x2 = 5 ∨ x2 = 4 ∨ x2 = 0 := h9; rcases h7 with h8 | h8 | h8 <;> (first | exact c_84_5571 h8.symm | exact c_84_5574 h8.symm | exact c_84_5577 h8.symm)))]; rfl))) rfl gX12_taken_6.2.2
                  · refine lv_aload_n hx hb gX12_taken_5.2.2.2.2.2.2.1 rfl (lv_at1 hl) ?_
                    refine gf_X12_75 hC rfl hK hP 0 rfl rfl gX12_taken_5.2.2.2.2.2.2.2.1 ?_
                    refine lv_iload_n hx hb gX12_taken_5.2.2.2.2.2.2.2.2.1 rfl (lv_at2 hl) ?_
                    refine aldN hC hK hP 3 rfl (k := jt) (by omega) (Nat.le_of_ble_eq_true rfl) (v := fnsf jt) rfl gX12_taken_5.2.2.2.2.2.2.2.2.2 ?_
                    refine lv_goto (tgt := 111) hx hb gX12_taken_6.1 (by decide) ?_
                    refine toQ hQ0 ?_
                    exact RP (v := fnsf jt) hC ((absurd a5536 (by rw [← c_97_5580]; unfold Wi; decide))) rfl gX12_taken_6.2.2
          · refine lv_istore_n (lv' := [(3, .int 6), (0, .ref h0), (1, .int (nI jt)), (2, .int x2)]) hx hb gX12_taken_3.2.2.2.2.2.2.2.2.2 rfl hl (by decide) rfl (fun ls hl => ?_)
            refine lv_iload_n hx hb gX12_taken_4.1 rfl (lv_at0 hl) ?_
            refine lv_if_ge (tgt := 78) hx hb gX12_taken_4.2.1 (by decide) (fun _ => ?_) (fun c9 => absurd (by decide) c9)
            refine lv_iload_n hx hb gX12_taken_4.2.2.2.2.1 rfl (lv_at0 hl) ?_
            refine lv_if_lt (tgt := 95) hx hb gX12_taken_4.2.2.2.2.2.1 (by decide) (fun c9 => absurd c9 (by decide)) (fun _ => ?_)
            refine lv_iload_n hx hb gX12_taken_4.2.2.2.2.2.2.1 rfl (lv_at0 hl) ?_
            refine lv_iload_n hx hb gX12_taken_4.2.2.2.2.2.2.2.1 rfl (lv_at3 hl) ?_
            refine lv_icmp_eq (tgt := 95) hx hb gX12_taken_4.2.2.2.2.2.2.2.2.1 (by decide) (fun c_84_5581 => ?_) (fun c_84_5581 => ?_)
            · refine lv_iload_n hx hb gX12_taken_5.2.2.2.1 rfl (lv_at0 hl) ?_
              refine lv_iload_n hx hb gX12_taken_5.2.2.2.2.1 rfl (lv_at3 hl) ?_
              refine lv_icmp_ne (tgt := 109) hx hb gX12_taken_5.2.2.2.2.2.1 (by decide) (fun c9 => absurd (c_84_5581) c9) (fun _ => ?_)
              refine lv_aload_n hx hb gX12_taken_5.2.2.2.2.2.2.1 rfl (lv_at1 hl) ?_
              refine gf_X12_75 hC rfl hK hP 0 rfl rfl gX12_taken_5.2.2.2.2.2.2.2.1 ?_
              refine lv_iload_n hx hb gX12_taken_5.2.2.2.2.2.2.2.2.1 rfl (lv_at2 hl) ?_
              refine aldN hC hK hP 3 rfl (k := jt) (by omega) (Nat.le_of_ble_eq_true rfl) (v := fnsf jt) rfl gX12_taken_5.2.2.2.2.2.2.2.2.2 ?_
              refine lv_goto (tgt := 111) hx hb gX12_taken_6.1 (by decide) ?_
              refine toQ hQ0 ?_
              exact RP (v := fnsf jt) hC ((by first | rfl | (simp only [nI_clamp (n := jt) (by omega), ifc_t ekq, ifc_t hkq, ifc_t ek8, ifc_t hk8, ifc_t ek9, ifc_t hk9, ifc_t hN, ifc_t a5480, ifc_f a5482, ifc_t a5536, ifc_f c_37_5537, ifc_t c_84_5581, ifc_t (q := Wi x2 0 6 ∨ Wi x2 10 14) (Or.inr a5536), a5539, ifc_f (q := (6 : Int32) < 0) (by decide), ifc_t (q := UNl (6 : Int32).toNatClampNeg x2) (show UNl 6 x2 from Or.inl (c_84_5581.symm))]; done) | (simp only [nI_clamp (n := jt) (by omega), ifc_t ekq, ifc_t hkq, ifc_t ek8, ifc_t hk8, ifc_t ek9, ifc_t hk9, ifc_t hN, ifc_t a5480, ifc_f a5482, ifc_t a5536, ifc_f c_37_5537, ifc_t c_84_5581, ifc_t (q := Wi x2 0 6 ∨ Wi x2 10 14) (Or.inr a5536), a5539, ifc_f (q := (6 : Int32) < 0) (by decide), ifc_t (q := UNl (6 : Int32).toNatClampNeg x2) (show UNl 6 x2 from Or.inl (c_84_5581.symm))]; rfl))) rfl gX12_taken_6.2.2
            · refine lv_iload_n hx hb gX12_taken_4.2.2.2.2.2.2.2.2.2 rfl (lv_at0 hl) ?_
              refine pS hC hK hl (m_above6 l G) si_X12_348 rfl rfl (Nat.le_of_ble_eq_true rfl) rm_4_1_1 ⟨by first | exact Nat.le_of_ble_eq_true rfl | exact Nat.zero_le _, by first | exact Nat.le_of_ble_eq_true rfl | exact Nat.zero_le _⟩ gX12_taken_5.1 (Keqr ?_)
              refine lv_istore_n (lv' := [(3, .int 0), (0, .ref h0), (1, .int (nI jt)), (2, .int x2)]) hx hb gX12_taken_5.2.1 rfl hl (by decide) rfl (fun ls hl => ?_)
              refine lv_goto (tgt := 78) hx hb gX12_taken_5.2.2.1 (by decide) ?_
              refine lv_iload_n hx hb gX12_taken_4.2.2.2.2.1 rfl (lv_at0 hl) ?_
              refine lv_if_lt (tgt := 95) hx hb gX12_taken_4.2.2.2.2.2.1 (by decide) (fun c9 => absurd c9 (by decide)) (fun _ => ?_)
              refine lv_iload_n hx hb gX12_taken_4.2.2.2.2.2.2.1 rfl (lv_at0 hl) ?_
              refine lv_iload_n hx hb gX12_taken_4.2.2.2.2.2.2.2.1 rfl (lv_at3 hl) ?_
              refine lv_icmp_eq (tgt := 95) hx hb gX12_taken_4.2.2.2.2.2.2.2.2.1 (by decide) (fun c_84_5584 => ?_) (fun c_84_5584 => ?_)
              · refine lv_iload_n hx hb gX12_taken_5.2.2.2.1 rfl (lv_at0 hl) ?_
                refine lv_iload_n hx hb gX12_taken_5.2.2.2.2.1 rfl (lv_at3 hl) ?_
                refine lv_icmp_ne (tgt := 109) hx hb gX12_taken_5.2.2.2.2.2.1 (by decide) (fun c9 => absurd (c_84_5584) c9) (fun _ => ?_)
                refine lv_aload_n hx hb gX12_taken_5.2.2.2.2.2.2.1 rfl (lv_at1 hl) ?_
                refine gf_X12_75 hC rfl hK hP 0 rfl rfl gX12_taken_5.2.2.2.2.2.2.2.1 ?_
                refine lv_iload_n hx hb gX12_taken_5.2.2.2.2.2.2.2.2.1 rfl (lv_at2 hl) ?_
                refine aldN hC hK hP 3 rfl (k := jt) (by omega) (Nat.le_of_ble_eq_true rfl) (v := fnsf jt) rfl gX12_taken_5.2.2.2.2.2.2.2.2.2 ?_
                refine lv_goto (tgt := 111) hx hb gX12_taken_6.1 (by decide) ?_
                refine toQ hQ0 ?_
                exact RP (v := fnsf jt) hC ((by first | rfl | (simp only [nI_clamp (n := jt) (by omega), ifc_t ekq, ifc_t hkq, ifc_t ek8, ifc_t hk8, ifc_t ek9, ifc_t hk9, ifc_t hN, ifc_t a5480, ifc_f a5482, ifc_t a5536, ifc_f c_37_5537, ifc_f c_84_5581, ifc_t c_84_5584, ifc_t (q := Wi x2 0 6 ∨ Wi x2 10 14) (Or.inr a5536), a5539, ifc_f (q := (6 : Int32) < 0) (by decide), ifc_t (q := UNl (6 : Int32).toNatClampNeg x2) (show UNl 6 x2 from Or.inr (c_84_5584.symm))]; done) | (simp only [nI_clamp (n := jt) (by omega), ifc_t ekq, ifc_t hkq, ifc_t ek8, ifc_t hk8, ifc_t ek9, ifc_t hk9, ifc_t hN, ifc_t a5480, ifc_f a5482, ifc_t a5536, ifc_f c_37_5537, ifc_f c_84_5581, ifc_t c_84_5584, ifc_t (q := Wi x2 0 6 ∨ Wi x2 10 14) (Or.inr a5536), a5539, ifc_f (q := (6 : Int32) < 0) (by decide), ifc_t (q := UNl (6 : Int32).toNatClampNeg x2) (show UNl 6 x2 from Or.inr (c_84_5584.symm))]; rfl))) rfl gX12_taken_6.2.2
              · refine lv_iload_n hx hb gX12_taken_4.2.2.2.2.2.2.2.2.2 rfl (lv_at0 hl) ?_
                refine pS hC hK hl (m_above0 l G) si_X12_348 rfl rfl (Nat.le_of_ble_eq_true rfl) rm_4_1_1 ⟨by first | exact Nat.le_of_ble_eq_true rfl | exact Nat.zero_le _, by first | exact Nat.le_of_ble_eq_true rfl | exact Nat.zero_le _⟩ gX12_taken_5.1 (Keqr ?_)
                refine lv_istore_n (lv' := [(3, .int (-1)), (0, .ref h0), (1, .int (nI jt)), (2, .int x2)]) hx hb gX12_taken_5.2.1 rfl hl (by decide) rfl (fun ls hl => ?_)
                refine lv_goto (tgt := 78) hx hb gX12_taken_5.2.2.1 (by decide) ?_
                refine lv_iload_n hx hb gX12_taken_4.2.2.2.2.1 rfl (lv_at0 hl) ?_
                refine lv_if_lt (tgt := 95) hx hb gX12_taken_4.2.2.2.2.2.1 (by decide) (fun _ => ?_) (fun c9 => absurd (by decide) c9)
                refine lv_iload_n hx hb gX12_taken_5.2.2.2.1 rfl (lv_at0 hl) ?_
                refine lv_iload_n hx hb gX12_taken_5.2.2.2.2.1 rfl (lv_at3 hl) ?_
                refine lv_icmp_ne (tgt := 109) hx hb gX12_taken_5.2.2.2.2.2.1 (by decide) (fun c_97_5587 => ?_) (fun c_97_5587 => ?_)
                · refine lv_bipush (v := (-13)) hx hb gX12_taken_6.2.1 (by decide) ?_
                  refine toQ hQ0 ?_
                  exact RP (v := (-13)) hC ((by first | rfl | (simp only [nI_clamp (n := jt) (by omega), ifc_t ekq, ifc_t hkq, ifc_t ek8, ifc_t hk8, ifc_t ek9, ifc_t hk9, ifc_t hN, ifc_t a5480, ifc_f a5482, ifc_t a5536, ifc_f c_37_5537, ifc_f c_84_5581, ifc_f c_84_5584, ifc_f c_97_5587, ifc_t (q := Wi x2 0 6 ∨ Wi x2 10 14) (Or.inr a5536), a5539, ifc_f (q := (6 : Int32) < 0) (by decide), ifc_f (q := UNl (6 : Int32).toNatClampNeg x2) (fun h9 => (show False from by have h7 : x2 = 6 ∨ x2 = 0 := h9; rcases h7 with h8 | h8 <;> (first | exact c_84_5581 h8.symm | exact c_84_5584 h8.symm)))]; done) | (simp only [nI_clamp (n := jt) (by omega), ifc_t ekq, ifc_t hkq, ifc_t ek8, ifc_t hk8, ifc_t ek9, ifc_t hk9, ifc_t hN, ifc_t a5480, ifc_f a5482, ifc_t a5536, ifc_f c_37_5537, ifc_f c_84_5581, ifc_f c_84_5584, ifc_f c_97_5587, ifc_t (q := Wi x2 0 6 ∨ Wi x2 10 14) (Or.inr a5536), a5539, ifc_f (q := (6 : Int32) < 0) (by decide), ifc_f (q := UNl (6 : Int32).toNatClampNeg x2) (fun h9 => (show False from by have h7 : x2 = 6 ∨ x2 = 0 := h9; rcases h7 with h8 | h8 <;> (first | exact c_84_5581 h8.symm | exact c_84_5584 h8.symm)))]; rfl))) rfl gX12_taken_6.2.2
                · refine lv_aload_n hx hb gX12_taken_5.2.2.2.2.2.2.1 rfl (lv_at1 hl) ?_
                  refine gf_X12_75 hC rfl hK hP 0 rfl rfl gX12_taken_5.2.2.2.2.2.2.2.1 ?_
                  refine lv_iload_n hx hb gX12_taken_5.2.2.2.2.2.2.2.2.1 rfl (lv_at2 hl) ?_
                  refine aldN hC hK hP 3 rfl (k := jt) (by omega) (Nat.le_of_ble_eq_true rfl) (v := fnsf jt) rfl gX12_taken_5.2.2.2.2.2.2.2.2.2 ?_
                  refine lv_goto (tgt := 111) hx hb gX12_taken_6.1 (by decide) ?_
                  refine toQ hQ0 ?_
                  exact RP (v := fnsf jt) hC ((absurd a5536 (by rw [← c_97_5587]; unfold Wi; decide))) rfl gX12_taken_6.2.2
        · refine lv_iload_n hx hb gX12_taken_2.2.1 rfl (lv_at2 hl) ?_
          refine lv_bipush (v := 10) hx hb gX12_taken_2.2.2.1 (by decide) ?_
          refine lv_isub hx hb gX12_taken_2.2.2.2.1 ?_
          refine lv_aload_n hx hb gX12_taken_2.2.2.2.2.1 rfl (lv_at0 hl) ?_
          refine gf_X12_75 hC rfl hK hP 0 rfl rfl gX12_taken_2.2.2.2.2.2.1 ?_
          refine lv_iload_n hx hb gX12_taken_2.2.2.2.2.2.2.1 rfl (lv_at1 hl) ?_
          refine aldN hC hK hP 3 rfl (k := jt) (by omega) (Nat.le_of_ble_eq_true rfl) (v := fnsf jt) rfl gX12_taken_2.2.2.2.2.2.2.2.1 ?_
          refine lv_icmp_ne (tgt := 62) hx hb gX12_taken_2.2.2.2.2.2.2.2.2.1 (by decide) (fun c_50_5588 => ?_) (fun c_50_5588 => ?_)
          · refine lv_bipush (v := (-13)) hx hb gX12_taken_3.2.2.2.2.1 (by decide) ?_
            refine toQ hQ0 ?_
            exact RP (v := (-13)) hC ((by first | rfl | (simp only [nI_clamp (n := jt) (by omega), ifc_t ekq, ifc_t hkq, ifc_t ek8, ifc_t hk8, ifc_t ek9, ifc_t hk9, ifc_t hN, ifc_t a5480, ifc_f a5482, ifc_t a5536, ifc_t c_37_5537, ifc_f c_50_5588, ifc_t (q := Wi x2 0 6 ∨ Wi x2 10 14) (Or.inr a5536)]; done) | (simp only [nI_clamp (n := jt) (by omega), ifc_t ekq, ifc_t hkq, ifc_t ek8, ifc_t hk8, ifc_t ek9, ifc_t hk9, ifc_t hN, ifc_t a5480, ifc_f a5482, ifc_t a5536, ifc_t c_37_5537, ifc_f c_50_5588, ifc_t (q := Wi x2 0 6 ∨ Wi x2 10 14) (Or.inr a5536)]; rfl))) rfl gX12_taken_3.2.2.2.2.2.1
          · refine lv_aload_n hx hb gX12_taken_2.2.2.2.2.2.2.2.2.2 rfl (lv_at0 hl) ?_
            refine gf_X12_78 hC rfl hK hP 0 rfl rfl gX12_taken_3.1 ?_
            refine lv_iload_n hx hb gX12_taken_3.2.1 rfl (lv_at1 hl) ?_
            refine aldN hC hK hP 4 rfl (k := jt) (by omega) (Nat.le_of_ble_eq_true rfl) (v := fnss jt) rfl gX12_taken_3.2.2.1 ?_
            refine lv_goto (tgt := 64) hx hb gX12_taken_3.2.2.2.1 (by decide) ?_
            refine toQ hQ0 ?_
            exact RP (v := fnss jt) hC ((by first | rfl | (simp only [nI_clamp (n := jt) (by omega), ifc_t ekq, ifc_t hkq, ifc_t ek8, ifc_t hk8, ifc_t ek9, ifc_t hk9, ifc_t hN, ifc_t a5480, ifc_f a5482, ifc_t a5536, ifc_t c_37_5537, ifc_t c_50_5588, ifc_t (q := Wi x2 0 6 ∨ Wi x2 10 14) (Or.inr a5536)]; done) | (simp only [nI_clamp (n := jt) (by omega), ifc_t ekq, ifc_t hkq, ifc_t ek8, ifc_t hk8, ifc_t ek9, ifc_t hk9, ifc_t hN, ifc_t a5480, ifc_f a5482, ifc_t a5536, ifc_t c_37_5537, ifc_t c_50_5588, ifc_t (q := Wi x2 0 6 ∨ Wi x2 10 14) (Or.inr a5536)]; rfl))) rfl gX12_taken_3.2.2.2.2.2.1
      · refine lv_if_ne (tgt := 30) hx hb gX12_taken_1.2.2.1 (by decide) (fun c9 => absurd (by decide) c9) (fun _ => ?_)
        refine lv_iconst (v := (-1)) hx hb gX12_taken_1.2.2.2.1 (by decide) ?_
        refine toQ hQ0 ?_
        exact RP (v := (-1)) hC ((by first | rfl | (simp only [ifc_t ekq, ifc_t hkq, ifc_t ek8, ifc_t hk8, ifc_t ek9, ifc_t hk9, ifc_t hN, ifc_t a5480, ifc_f a5482, ifc_f a5536, ifc_f (q := Wi x2 0 6 ∨ Wi x2 10 14) (not_or.mpr ⟨a5482, a5536⟩)]; done) | (simp only [ifc_t ekq, ifc_t hkq, ifc_t ek8, ifc_t hk8, ifc_t ek9, ifc_t hk9, ifc_t hN, ifc_t a5480, ifc_f a5482, ifc_f a5536, ifc_f (q := Wi x2 0 6 ∨ Wi x2 10 14) (not_or.mpr ⟨a5482, a5536⟩)]; rfl))) rfl gX12_taken_1.2.2.2.2.1
  · refine lv_if_eq (tgt := 28) hx hb gX12_taken_0.2.2.1 (by decide) (fun _ => ?_) (fun c9 => absurd (by decide) c9)
    refine lv_iconst (v := (-1)) hx hb gX12_taken_1.2.2.2.1 (by decide) ?_
    refine toQ hQ0 ?_
    exact RP (v := (-1)) hC ((by first | rfl | (simp only [ifc_t ekq, ifc_t hkq, ifc_t ek8, ifc_t hk8, ifc_t ek9, ifc_t hk9, ifc_t hN, ifc_f a5480]; done) | (simp only [ifc_t ekq, ifc_t hkq, ifc_t ek8, ifc_t hk8, ifc_t ek9, ifc_t hk9, ifc_t hN, ifc_f a5480]; rfl))) rfl gX12_taken_1.2.2.2.2.1
def K_m_began (l : Launch) (G : GG) (h0 : Nat) (bo : Int32) (nw : Nat) (nk : Nat) (mhasKept : Int32) (nt : Nat) (mtaped : Int32) (nr : Nat) (mrowMany : Int32) (mroundOf : Int32) (mroundFrom : Int32) (mouts : Int32) (nm : Nat) (mfromHour : Int32) (mtoHour : Int32) (ns : Nat) (mfrom : Int32) (mto : Int32) (msort : Int32) (misFault : Int32) (mdeep : Int32) (mcoded : Int32) (mlines : Int32) (nl : Nat) (nc : Nat) (nF : Nat) (np : Nat) (ntr : Nat) (nb : Nat) (mbestCost : Int32) (nso : Nat) (nsi : Nat) (nit : Nat) (nsh : Nat) (nsf : Nat) (nss : Nat) (nrc : Nat) (jr : Nat) (mdealer : Int32) (mnumber : Int32) (mwhose : Int32) (msize : Int32) (misParted : Int32) (fnrc : Nat → Int32) : Prop := MV l G yX12_began cX12_began 2 1 0 0 [.ref h0, .int bo] [(h0, oX12 nw nk mhasKept nt mtaped nr mrowMany mroundOf mroundFrom mouts nm mfromHour mtoHour ns mfrom mto msort misFault mdeep mcoded mlines nl nc nF np ntr nb mbestCost nso nsi nit nsh nsf nss nrc (nI jr) mdealer mnumber mwhose msize misParted), (nrc, iA G 30 fnrc)] (fun u : Nat × (Nat → Int32) => u.1 ≤ 30) (fun u : Nat × (Nat → Int32) => [(h0, oX12 nw nk mhasKept nt mtaped nr mrowMany mroundOf mroundFrom mouts nm mfromHour mtoHour ns mfrom mto msort misFault mdeep mcoded mlines nl nc nF np ntr nb mbestCost nso nsi nit nsh nsf nss nrc (nI u.1) mdealer mnumber mwhose msize misParted), (nrc, iA G 30 u.2)])
set_option maxHeartbeats 4000000 in
set_option maxRecDepth 100000 in
theorem m_began (l : Launch) (G : GG) (h0 : Nat) (bo : Int32) (nw : Nat) (nk : Nat) (mhasKept : Int32) (nt : Nat) (mtaped : Int32) (nr : Nat) (mrowMany : Int32) (mroundOf : Int32) (mroundFrom : Int32) (mouts : Int32) (nm : Nat) (mfromHour : Int32) (mtoHour : Int32) (ns : Nat) (mfrom : Int32) (mto : Int32) (msort : Int32) (misFault : Int32) (mdeep : Int32) (mcoded : Int32) (mlines : Int32) (nl : Nat) (nc : Nat) (nF : Nat) (np : Nat) (ntr : Nat) (nb : Nat) (mbestCost : Int32) (nso : Nat) (nsi : Nat) (nit : Nat) (nsh : Nat) (nsf : Nat) (nss : Nat) (nrc : Nat) (jr : Nat) (mdealer : Int32) (mnumber : Int32) (mwhose : Int32) (msize : Int32) (misParted : Int32) (fnrc : Nat → Int32) (hjr : jr ≤ 30) : K_m_began l G h0 bo nw nk mhasKept nt mtaped nr mrowMany mroundOf mroundFrom mouts nm mfromHour mtoHour ns mfrom mto msort misFault mdeep mcoded mlines nl nc nF np ntr nb mbestCost nso nsi nit nsh nsf nss nrc jr mdealer mnumber mwhose msize misParted fnrc := by
  refine MV.start (by decide +kernel) (Nat.le_of_ble_eq_true rfl) ?_
  intro p e s m below meth c A ls hC hK hP hD hS hA hl
  refine absQ (fun Q0 hQ0 => ?_)
  have hl : lv_has ls 2 [(0, .ref h0), (1, .int bo)] := hl
  refine Kan8 hC (fun hx hb hr hml hB hown hlocks hnm => ?_)
  refine lv_aload_n hx hb gX12_began_0.1 rfl (lv_at0 hl) ?_
  refine gf_X12_351 hC rfl hK hP 0 rfl rfl gX12_began_0.2.1 ?_
  refine lv_bipush (v := 30) hx hb gX12_began_0.2.2.1 (by decide) ?_
  refine lv_icmp_ge (tgt := 29) hx hb gX12_began_0.2.2.2.1 (by decide) (fun c_6_5589 => ?_) (fun c_6_5589 => ?_)
  · refine toQ hQ0 ?_
    exact RV hC hP hD hS [0, 1] (jr, fnrc) rfl rfl (by decide) (by omega) gX12_began_1.2.2.2.2.2.2
  · have hjr9 := nge_nat (R := 30) (k := jr) (by decide) (by omega) c_6_5589
    refine lv_aload_n hx hb gX12_began_0.2.2.2.2.1 rfl (lv_at0 hl) ?_
    refine gf_X12_81 hC rfl hK hP 0 rfl rfl gX12_began_0.2.2.2.2.2.1 ?_
    refine lv_aload_n hx hb gX12_began_0.2.2.2.2.2.2.1 rfl (lv_at0 hl) ?_
    refine gf_X12_351 hC rfl hK hP 0 rfl rfl gX12_began_0.2.2.2.2.2.2.2.1 ?_
    refine lv_iload_n hx hb gX12_began_0.2.2.2.2.2.2.2.2.1 rfl (lv_at1 hl) ?_
    refine astN hC hK hP hD hS 1 (ws' := [(h0, oX12 nw nk mhasKept nt mtaped nr mrowMany mroundOf mroundFrom mouts nm mfromHour mtoHour ns mfrom mto msort misFault mdeep mcoded mlines nl nc nF np ntr nb mbestCost nso nsi nit nsh nsf nss nrc (nI jr) mdealer mnumber mwhose msize misParted), (nrc, iA G 30 (upd fnrc jr bo))]) rfl (k := jr) (by omega) (Nat.le_of_ble_eq_true rfl) (rfl) gX12_began_0.2.2.2.2.2.2.2.2.2 (fun H locs hP hD hS => ?_)
    refine lv_aload_n hx hb gX12_began_1.1 rfl (lv_at0 hl) ?_
    refine lv_dup hx hb gX12_began_1.2.1 rfl ?_
    refine gf_X12_351 hC rfl hK hP 0 rfl rfl gX12_began_1.2.2.1 ?_
    refine lv_iconst (v := 1) hx hb gX12_began_1.2.2.2.1 (by decide) ?_
    refine lv_iadd hx hb gX12_began_1.2.2.2.2.1 ?_
    refine eqi (x1 := nI (jr + 1)) (nI_add jr 1) ?_
    refine pf_X12_351 hC rfl hK hP hD hS 0 (ws' := [(h0, oX12 nw nk mhasKept nt mtaped nr mrowMany mroundOf mroundFrom mouts nm mfromHour mtoHour ns mfrom mto msort misFault mdeep mcoded mlines nl nc nF np ntr nb mbestCost nso nsi nit nsh nsf nss nrc (nI (jr + 1)) mdealer mnumber mwhose msize misParted), (nrc, iA G 30 (upd fnrc jr bo))]) rfl (Nat.le_of_ble_eq_true rfl) rfl rfl rfl gX12_began_1.2.2.2.2.2.1 (fun H locs hP hD hS => ?_)
    refine toQ hQ0 ?_
    exact RV hC hP hD hS [0, 1] ((jr + 1), upd fnrc jr bo) rfl rfl (by decide) (by omega) gX12_began_1.2.2.2.2.2.2
def K_m_body00 (l : Launch) (G : GG) (h0 : Nat) (xx : Int32) (nw : Nat) (nk : Nat) (mhasKept : Int32) (nt : Nat) (mtaped : Int32) (nr : Nat) (mrowMany : Int32) (mroundOf : Int32) (mroundFrom : Int32) (mouts : Int32) (nm : Nat) (mfromHour : Int32) (mtoHour : Int32) (ns : Nat) (mfrom : Int32) (mto : Int32) (msort : Int32) (misFault : Int32) (mdeep : Int32) (mcoded : Int32) (mlines : Int32) (nl : Nat) (nc : Nat) (nF : Nat) (np : Nat) (ntr : Nat) (nb : Nat) (mbestCost : Int32) (nso : Nat) (nsi : Nat) (nit : Nat) (nsh : Nat) (nsf : Nat) (nss : Nat) (nrc : Nat) (jr : Nat) (jd : Nat) (mnumber : Int32) (mwhose : Int32) (msize : Int32) (misParted : Int32) (fnrc : Nat → Int32) : Prop := MI l G yX12_body cX12_body 6 (some .int) 3 0 0 [.ref h0, .int 0, .int 0, .int xx] [(h0, oX12 nw nk mhasKept nt mtaped nr mrowMany mroundOf mroundFrom mouts nm mfromHour mtoHour ns mfrom mto msort misFault mdeep mcoded mlines nl nc nF np ntr nb mbestCost nso nsi nit nsh nsf nss nrc (nI jr) (nI jd) mnumber mwhose msize misParted), (nrc, iA G 30 fnrc)] (fun (r : Int32) (u : Nat × Int32 × (Nat → Int32)) => (True) ∧ (u.1 ≤ 30)) (fun u : Nat × Int32 × (Nat → Int32) => [(h0, oX12 nw nk mhasKept nt mtaped nr mrowMany mroundOf mroundFrom mouts nm mfromHour mtoHour ns mfrom mto msort misFault mdeep mcoded mlines nl nc nF np ntr nb mbestCost nso nsi nit nsh nsf nss nrc (nI u.1) (nI jd) mnumber mwhose msize u.2.1), (nrc, iA G 30 u.2.2)])
set_option maxHeartbeats 4000000 in
set_option maxRecDepth 100000 in
theorem m_body00 (l : Launch) (G : GG) (h0 : Nat) (xx : Int32) (nw : Nat) (nk : Nat) (mhasKept : Int32) (nt : Nat) (mtaped : Int32) (nr : Nat) (mrowMany : Int32) (mroundOf : Int32) (mroundFrom : Int32) (mouts : Int32) (nm : Nat) (mfromHour : Int32) (mtoHour : Int32) (ns : Nat) (mfrom : Int32) (mto : Int32) (msort : Int32) (misFault : Int32) (mdeep : Int32) (mcoded : Int32) (mlines : Int32) (nl : Nat) (nc : Nat) (nF : Nat) (np : Nat) (ntr : Nat) (nb : Nat) (mbestCost : Int32) (nso : Nat) (nsi : Nat) (nit : Nat) (nsh : Nat) (nsf : Nat) (nss : Nat) (nrc : Nat) (jr : Nat) (jd : Nat) (mnumber : Int32) (mwhose : Int32) (msize : Int32) (misParted : Int32) (fnrc : Nat → Int32) (hjr : jr ≤ 30) (hjd : jd < 7) : K_m_body00 l G h0 xx nw nk mhasKept nt mtaped nr mrowMany mroundOf mroundFrom mouts nm mfromHour mtoHour ns mfrom mto msort misFault mdeep mcoded mlines nl nc nF np ntr nb mbestCost nso nsi nit nsh nsf nss nrc jr jd mnumber mwhose msize misParted fnrc := by
  refine MI.start (by decide +kernel) (Nat.le_of_ble_eq_true rfl) ?_
  intro p e s m below meth c A ls hC hK hP hD hS hA hl
  refine absQ (fun Q0 hQ0 => ?_)
  have hl : lv_has ls 6 [(0, .ref h0), (1, .int 0), (2, .int 0), (3, .int xx)] := hl
  refine Kan8 hC (fun hx hb hr hml hB hown hlocks hnm => ?_)
  refine lv_iconst (v := 4) hx hb gX12_body_0.1 (by decide) ?_
  refine lv_iload_n hx hb gX12_body_0.2.1 rfl (lv_at1 hl) ?_
  refine lv_imul hx hb gX12_body_0.2.2.1 ?_
  refine eqi (x1 := 0) (by decide) ?_
  refine lv_iload_n hx hb gX12_body_0.2.2.2.1 rfl (lv_at2 hl) ?_
  refine lv_iadd hx hb gX12_body_0.2.2.2.2.1 ?_
  refine eqi (x1 := 0) (by decide) ?_
  refine lv_tableIn (tgt := 112) hx hb gX12_body_0.2.2.2.2.2.1 (by decide) (by decide) rfl (by decide) ?_
  refine lv_aload_n hx hb gX12_body_0.2.2.2.2.2.2.1 rfl (lv_at0 hl) ?_
  refine lv_bipush (v := 10) hx hb gX12_body_0.2.2.2.2.2.2.2.1 (by decide) ?_
  refine vV (wr := []) hC hK hl hP hD hS hA (m_began l G h0 10 nw nk mhasKept nt mtaped nr mrowMany mroundOf mroundFrom mouts nm mfromHour mtoHour ns mfrom mto msort misFault mdeep mcoded mlines nl nc nF np ntr nb mbestCost nso nsi nit nsh nsf nss nrc jr (nI jd) mnumber mwhose msize misParted fnrc (hjr)) si_X12_366 [0, 1] [] sm_0_1 fm_0_1 nd_0_1 rfl rfl (by decide) rfl rfl rfl rfl rfl (Nat.le_of_ble_eq_true rfl) rm_3_1_2 ⟨Nat.le_of_ble_eq_true rfl, Nat.le_of_ble_eq_true rfl⟩ gX12_body_0.2.2.2.2.2.2.2.2.1 (Ktu2 fun jr15592 gtrc5593 => ?_)
  intro H locs hr5590 hP hD hS
  try dsimp only at hr5590
  refine Kpdr (ws := [(h0, oX12 nw nk mhasKept nt mtaped nr mrowMany mroundOf mroundFrom mouts nm mfromHour mtoHour ns mfrom mto msort misFault mdeep mcoded mlines nl nc nF np ntr nb mbestCost nso nsi nit nsh nsf nss nrc (nI jr15592) (nI jd) mnumber mwhose msize misParted), (nrc, iA G 30 gtrc5593)]) hP hD (fun hP hD => ?_)
  have w5594 := hr5590
  refine lv_iload_n hx hb gX12_body_0.2.2.2.2.2.2.2.2.2 rfl (lv_at3 hl) ?_
  refine lv_aload_n hx hb gX12_body_1.1 rfl (lv_at0 hl) ?_
  refine gf_X12_369 hC rfl hK hP 0 rfl rfl gX12_body_1.2.1 ?_
  refine lv_iadd hx hb gX12_body_1.2.2.1 ?_
  refine toQ hQ0 ?_
  exact RI (v := xx + msize) hC hP hD hS [0, 1] (jr15592, misParted, gtrc5593) rfl rfl (by decide) (⟨trivial, by omega⟩) rfl gX12_body_1.2.2.2.1
def K_m_from00 (l : Launch) (G : GG) (h0 : Nat) (xx : Int32) (nw : Nat) (nk : Nat) (mhasKept : Int32) (nt : Nat) (mtaped : Int32) (nr : Nat) (mrowMany : Int32) (mroundOf : Int32) (mroundFrom : Int32) (mouts : Int32) (nm : Nat) (mfromHour : Int32) (mtoHour : Int32) (ns : Nat) (mfrom : Int32) (mto : Int32) (msort : Int32) (misFault : Int32) (mdeep : Int32) (mcoded : Int32) (mlines : Int32) (nl : Nat) (nc : Nat) (nF : Nat) (np : Nat) (ntr : Nat) (nb : Nat) (mbestCost : Int32) (nso : Nat) (nsi : Nat) (nit : Nat) (nsh : Nat) (nsf : Nat) (nss : Nat) (nrc : Nat) (jr : Nat) (jd : Nat) (mnumber : Int32) (mwhose : Int32) (msize : Int32) (misParted : Int32) (fnrc : Nat → Int32) : Prop := MI l G yX12_bodyFrom cX12_bodyFrom 5 (some .int) 4 0 0 [.ref h0, .int 0, .int 0, .int xx] [(h0, oX12 nw nk mhasKept nt mtaped nr mrowMany mroundOf mroundFrom mouts nm mfromHour mtoHour ns mfrom mto msort misFault mdeep mcoded mlines nl nc nF np ntr nb mbestCost nso nsi nit nsh nsf nss nrc (nI jr) (nI jd) mnumber mwhose msize misParted), (nrc, iA G 30 fnrc)] (fun (r : Int32) (u : Nat × Int32 × (Nat → Int32)) => (True) ∧ (u.1 ≤ 30)) (fun u : Nat × Int32 × (Nat → Int32) => [(h0, oX12 nw nk mhasKept nt mtaped nr mrowMany mroundOf mroundFrom mouts nm mfromHour mtoHour ns mfrom mto msort misFault mdeep mcoded mlines nl nc nF np ntr nb mbestCost nso nsi nit nsh nsf nss nrc (nI u.1) (nI jd) mnumber mwhose msize u.2.1), (nrc, iA G 30 u.2.2)])
set_option maxHeartbeats 4000000 in
set_option maxRecDepth 100000 in
theorem m_from00 (l : Launch) (G : GG) (h0 : Nat) (xx : Int32) (nw : Nat) (nk : Nat) (mhasKept : Int32) (nt : Nat) (mtaped : Int32) (nr : Nat) (mrowMany : Int32) (mroundOf : Int32) (mroundFrom : Int32) (mouts : Int32) (nm : Nat) (mfromHour : Int32) (mtoHour : Int32) (ns : Nat) (mfrom : Int32) (mto : Int32) (msort : Int32) (misFault : Int32) (mdeep : Int32) (mcoded : Int32) (mlines : Int32) (nl : Nat) (nc : Nat) (nF : Nat) (np : Nat) (ntr : Nat) (nb : Nat) (mbestCost : Int32) (nso : Nat) (nsi : Nat) (nit : Nat) (nsh : Nat) (nsf : Nat) (nss : Nat) (nrc : Nat) (jr : Nat) (jd : Nat) (mnumber : Int32) (mwhose : Int32) (msize : Int32) (misParted : Int32) (fnrc : Nat → Int32) (hjr : jr ≤ 30) (hjd : jd < 7) : K_m_from00 l G h0 xx nw nk mhasKept nt mtaped nr mrowMany mroundOf mroundFrom mouts nm mfromHour mtoHour ns mfrom mto msort misFault mdeep mcoded mlines nl nc nF np ntr nb mbestCost nso nsi nit nsh nsf nss nrc jr jd mnumber mwhose msize misParted fnrc := by
  refine MI.start (by decide +kernel) (Nat.le_of_ble_eq_true rfl) ?_
  intro p e s m below meth c A ls hC hK hP hD hS hA hl
  refine absQ (fun Q0 hQ0 => ?_)
  have hl : lv_has ls 5 [(0, .ref h0), (1, .int 0), (2, .int 0), (3, .int xx)] := hl
  refine Kan8 hC (fun hx hb hr hml hB hown hlocks hnm => ?_)
  refine lv_iload_n hx hb gX12_bodyFrom_0.1 rfl (lv_at1 hl) ?_
  refine lv_istore (lv' := [(4, .int 0), (0, .ref h0), (1, .int 0), (2, .int 0), (3, .int xx)]) hx hb gX12_bodyFrom_0.2.1 hl (by decide) rfl (fun ls hl => ?_)
  refine lv_iload hx hb gX12_bodyFrom_0.2.2.1 (lv_at0 hl) ?_
  refine lv_iload_n hx hb gX12_bodyFrom_0.2.2.2.1 rfl (lv_at3 hl) ?_
  refine pS hC hK hl (m_hasOwn00 l G) si_X12_360 rfl rfl (Nat.le_of_ble_eq_true rfl) rm_4_1_2 ⟨by first | exact Nat.le_of_ble_eq_true rfl | exact Nat.zero_le _, by first | exact Nat.le_of_ble_eq_true rfl | exact Nat.zero_le _⟩ gX12_bodyFrom_0.2.2.2.2.1 (Keqr ?_)
  refine lv_if_ne (tgt := 22) hx hb gX12_bodyFrom_0.2.2.2.2.2.1 (by decide) (fun _ => ?_) (fun c9 => absurd c9 (by decide))
  refine lv_aload_n hx hb gX12_bodyFrom_1.1 rfl (lv_at1 hl) ?_
  refine lv_iload hx hb gX12_bodyFrom_1.2.1 (lv_at0 hl) ?_
  refine lv_iload_n hx hb gX12_bodyFrom_1.2.2.1 rfl (lv_at3 hl) ?_
  refine lv_iload_n hx hb gX12_bodyFrom_1.2.2.2.1 rfl (lv_at4 hl) ?_
  refine iV (wr := []) hC hK hl hP hD hS hA (m_body00 l G h0 xx nw nk mhasKept nt mtaped nr mrowMany mroundOf mroundFrom mouts nm mfromHour mtoHour ns mfrom mto msort misFault mdeep mcoded mlines nl nc nF np ntr nb mbestCost nso nsi nit nsh nsf nss nrc jr jd mnumber mwhose msize misParted fnrc (hjr) (hjd)) si_X12_363 [0, 1] [] sm_0_1 fm_0_1 nd_0_1 rfl rfl (by decide) rfl rfl rfl rfl rfl (Nat.le_of_ble_eq_true rfl) rm_4_3_6 ⟨Nat.le_of_ble_eq_true rfl, Nat.le_of_ble_eq_true rfl⟩ gX12_bodyFrom_1.2.2.2.2.1 (fun r5597 => Ktu3 fun jr15599 ip15600 gtrc5601 => ?_)
  intro H locs hr5597 hP hD hS
  try dsimp only at hr5597
  refine Kpdr (ws := [(h0, oX12 nw nk mhasKept nt mtaped nr mrowMany mroundOf mroundFrom mouts nm mfromHour mtoHour ns mfrom mto msort misFault mdeep mcoded mlines nl nc nF np ntr nb mbestCost nso nsi nit nsh nsf nss nrc (nI jr15599) (nI jd) mnumber mwhose msize ip15600), (nrc, iA G 30 gtrc5601)]) hP hD (fun hP hD => ?_)
  obtain ⟨hr5597, w5602⟩ := hr5597
  refine toQ hQ0 ?_
  exact RI (v := r5597) hC hP hD hS [0, 1] (jr15599, ip15600, gtrc5601) rfl rfl (by decide) (⟨trivial, by omega⟩) rfl gX12_bodyFrom_1.2.2.2.2.2
def K_m_body40 (l : Launch) (G : GG) (h0 : Nat) (xx : Int32) (nw : Nat) (nk : Nat) (mhasKept : Int32) (nt : Nat) (mtaped : Int32) (nr : Nat) (mrowMany : Int32) (mroundOf : Int32) (mroundFrom : Int32) (mouts : Int32) (nm : Nat) (mfromHour : Int32) (mtoHour : Int32) (ns : Nat) (mfrom : Int32) (mto : Int32) (msort : Int32) (misFault : Int32) (mdeep : Int32) (mcoded : Int32) (mlines : Int32) (nl : Nat) (nc : Nat) (nF : Nat) (np : Nat) (ntr : Nat) (nb : Nat) (mbestCost : Int32) (nso : Nat) (nsi : Nat) (nit : Nat) (nsh : Nat) (nsf : Nat) (nss : Nat) (nrc : Nat) (jr : Nat) (jd : Nat) (mnumber : Int32) (mwhose : Int32) (msize : Int32) (misParted : Int32) (fnrc : Nat → Int32) : Prop := MI l G yX12_body cX12_body 6 (some .int) 5 0 0 [.ref h0, .int 4, .int 0, .int xx] [(h0, oX12 nw nk mhasKept nt mtaped nr mrowMany mroundOf mroundFrom mouts nm mfromHour mtoHour ns mfrom mto msort misFault mdeep mcoded mlines nl nc nF np ntr nb mbestCost nso nsi nit nsh nsf nss nrc (nI jr) (nI jd) mnumber mwhose msize misParted), (nrc, iA G 30 fnrc)] (fun (r : Int32) (u : Nat × Int32 × (Nat → Int32)) => (True) ∧ (u.1 ≤ 30)) (fun u : Nat × Int32 × (Nat → Int32) => [(h0, oX12 nw nk mhasKept nt mtaped nr mrowMany mroundOf mroundFrom mouts nm mfromHour mtoHour ns mfrom mto msort misFault mdeep mcoded mlines nl nc nF np ntr nb mbestCost nso nsi nit nsh nsf nss nrc (nI u.1) (nI jd) mnumber mwhose msize u.2.1), (nrc, iA G 30 u.2.2)])
set_option maxHeartbeats 4000000 in
set_option maxRecDepth 100000 in
theorem m_body40 (l : Launch) (G : GG) (h0 : Nat) (xx : Int32) (nw : Nat) (nk : Nat) (mhasKept : Int32) (nt : Nat) (mtaped : Int32) (nr : Nat) (mrowMany : Int32) (mroundOf : Int32) (mroundFrom : Int32) (mouts : Int32) (nm : Nat) (mfromHour : Int32) (mtoHour : Int32) (ns : Nat) (mfrom : Int32) (mto : Int32) (msort : Int32) (misFault : Int32) (mdeep : Int32) (mcoded : Int32) (mlines : Int32) (nl : Nat) (nc : Nat) (nF : Nat) (np : Nat) (ntr : Nat) (nb : Nat) (mbestCost : Int32) (nso : Nat) (nsi : Nat) (nit : Nat) (nsh : Nat) (nsf : Nat) (nss : Nat) (nrc : Nat) (jr : Nat) (jd : Nat) (mnumber : Int32) (mwhose : Int32) (msize : Int32) (misParted : Int32) (fnrc : Nat → Int32) (hjr : jr ≤ 30) (hjd : jd < 7) : K_m_body40 l G h0 xx nw nk mhasKept nt mtaped nr mrowMany mroundOf mroundFrom mouts nm mfromHour mtoHour ns mfrom mto msort misFault mdeep mcoded mlines nl nc nF np ntr nb mbestCost nso nsi nit nsh nsf nss nrc jr jd mnumber mwhose msize misParted fnrc := by
  refine MI.start (by decide +kernel) (Nat.le_of_ble_eq_true rfl) ?_
  intro p e s m below meth c A ls hC hK hP hD hS hA hl
  refine absQ (fun Q0 hQ0 => ?_)
  have hl : lv_has ls 6 [(0, .ref h0), (1, .int 4), (2, .int 0), (3, .int xx)] := hl
  refine Kan8 hC (fun hx hb hr hml hB hown hlocks hnm => ?_)
  refine lv_iconst (v := 4) hx hb gX12_body_0.1 (by decide) ?_
  refine lv_iload_n hx hb gX12_body_0.2.1 rfl (lv_at1 hl) ?_
  refine lv_imul hx hb gX12_body_0.2.2.1 ?_
  refine eqi (x1 := 16) (by decide) ?_
  refine lv_iload_n hx hb gX12_body_0.2.2.2.1 rfl (lv_at2 hl) ?_
  refine lv_iadd hx hb gX12_body_0.2.2.2.2.1 ?_
  refine eqi (x1 := 16) (by decide) ?_
  refine lv_tableIn (tgt := 274) hx hb gX12_body_0.2.2.2.2.2.1 (by decide) (by decide) rfl (by decide) ?_
  refine lv_aload_n hx hb gX12_body_10.2.2.2.2.2.2.1 rfl (lv_at0 hl) ?_
  refine lv_bipush (v := 50) hx hb gX12_body_10.2.2.2.2.2.2.2.1 (by decide) ?_
  refine vV (wr := []) hC hK hl hP hD hS hA (m_began l G h0 50 nw nk mhasKept nt mtaped nr mrowMany mroundOf mroundFrom mouts nm mfromHour mtoHour ns mfrom mto msort misFault mdeep mcoded mlines nl nc nF np ntr nb mbestCost nso nsi nit nsh nsf nss nrc jr (nI jd) mnumber mwhose msize misParted fnrc (hjr)) si_X12_366 [0, 1] [] sm_0_1 fm_0_1 nd_0_1 rfl rfl (by decide) rfl rfl rfl rfl rfl (Nat.le_of_ble_eq_true rfl) rm_5_1_2 ⟨Nat.le_of_ble_eq_true rfl, Nat.le_of_ble_eq_true rfl⟩ gX12_body_10.2.2.2.2.2.2.2.2.1 (Ktu2 fun jr15605 gtrc5606 => ?_)
  intro H locs hr5603 hP hD hS
  try dsimp only at hr5603
  refine Kpdr (ws := [(h0, oX12 nw nk mhasKept nt mtaped nr mrowMany mroundOf mroundFrom mouts nm mfromHour mtoHour ns mfrom mto msort misFault mdeep mcoded mlines nl nc nF np ntr nb mbestCost nso nsi nit nsh nsf nss nrc (nI jr15605) (nI jd) mnumber mwhose msize misParted), (nrc, iA G 30 gtrc5606)]) hP hD (fun hP hD => ?_)
  have w5607 := hr5603
  refine lv_aload_n hx hb gX12_body_10.2.2.2.2.2.2.2.2.2 rfl (lv_at0 hl) ?_
  refine lv_iconst (v := 0) hx hb gX12_body_11.1 (by decide) ?_
  refine lv_iconst (v := 0) hx hb gX12_body_11.2.1 (by decide) ?_
  refine lv_iload_n hx hb gX12_body_11.2.2.1 rfl (lv_at3 hl) ?_
  refine iV (wr := []) hC hK hl hP hD hS hA (m_from00 l G h0 xx nw nk mhasKept nt mtaped nr mrowMany mroundOf mroundFrom mouts nm mfromHour mtoHour ns mfrom mto msort misFault mdeep mcoded mlines nl nc nF np ntr nb mbestCost nso nsi nit nsh nsf nss nrc jr15605 jd mnumber mwhose msize misParted gtrc5606 (w5607) (hjd)) si_X12_357 [0, 1] [] sm_0_1 fm_0_1 nd_0_1 rfl rfl (by decide) rfl rfl rfl rfl rfl (Nat.le_of_ble_eq_true rfl) rm_5_4_5 ⟨Nat.le_of_ble_eq_true rfl, Nat.le_of_ble_eq_true rfl⟩ gX12_body_11.2.2.2.1 (fun r5608 => Ktu3 fun jr15610 ip15611 gtrc5612 => ?_)
  intro H locs hr5608 hP hD hS
  try dsimp only at hr5608
  refine Kpdr (ws := [(h0, oX12 nw nk mhasKept nt mtaped nr mrowMany mroundOf mroundFrom mouts nm mfromHour mtoHour ns mfrom mto msort misFault mdeep mcoded mlines nl nc nF np ntr nb mbestCost nso nsi nit nsh nsf nss nrc (nI jr15610) (nI jd) mnumber mwhose msize ip15611), (nrc, iA G 30 gtrc5612)]) hP hD (fun hP hD => ?_)
  obtain ⟨hr5608, w5613⟩ := hr5608
  refine lv_aload_n hx hb gX12_body_11.2.2.2.2.1 rfl (lv_at0 hl) ?_
  refine gf_X12_378 hC rfl hK hP 0 rfl rfl gX12_body_11.2.2.2.2.2.1 ?_
  refine lv_isub hx hb gX12_body_11.2.2.2.2.2.2.1 ?_
  refine toQ hQ0 ?_
  exact RI (v := r5608 - mnumber) hC hP hD hS [0, 1] (jr15610, ip15611, gtrc5612) rfl rfl (by decide) (⟨trivial, by omega⟩) rfl gX12_body_11.2.2.2.2.2.2.2.1
def K_m_from40 (l : Launch) (G : GG) (h0 : Nat) (xx : Int32) (nw : Nat) (nk : Nat) (mhasKept : Int32) (nt : Nat) (mtaped : Int32) (nr : Nat) (mrowMany : Int32) (mroundOf : Int32) (mroundFrom : Int32) (mouts : Int32) (nm : Nat) (mfromHour : Int32) (mtoHour : Int32) (ns : Nat) (mfrom : Int32) (mto : Int32) (msort : Int32) (misFault : Int32) (mdeep : Int32) (mcoded : Int32) (mlines : Int32) (nl : Nat) (nc : Nat) (nF : Nat) (np : Nat) (ntr : Nat) (nb : Nat) (mbestCost : Int32) (nso : Nat) (nsi : Nat) (nit : Nat) (nsh : Nat) (nsf : Nat) (nss : Nat) (nrc : Nat) (jr : Nat) (jd : Nat) (mnumber : Int32) (mwhose : Int32) (msize : Int32) (misParted : Int32) (fnrc : Nat → Int32) : Prop := MI l G yX12_bodyFrom cX12_bodyFrom 5 (some .int) 6 0 0 [.ref h0, .int 4, .int 0, .int xx] [(h0, oX12 nw nk mhasKept nt mtaped nr mrowMany mroundOf mroundFrom mouts nm mfromHour mtoHour ns mfrom mto msort misFault mdeep mcoded mlines nl nc nF np ntr nb mbestCost nso nsi nit nsh nsf nss nrc (nI jr) (nI jd) mnumber mwhose msize misParted), (nrc, iA G 30 fnrc)] (fun (r : Int32) (u : Nat × Int32 × (Nat → Int32)) => (True) ∧ (u.1 ≤ 30)) (fun u : Nat × Int32 × (Nat → Int32) => [(h0, oX12 nw nk mhasKept nt mtaped nr mrowMany mroundOf mroundFrom mouts nm mfromHour mtoHour ns mfrom mto msort misFault mdeep mcoded mlines nl nc nF np ntr nb mbestCost nso nsi nit nsh nsf nss nrc (nI u.1) (nI jd) mnumber mwhose msize u.2.1), (nrc, iA G 30 u.2.2)])
set_option maxHeartbeats 4000000 in
set_option maxRecDepth 100000 in
theorem m_from40 (l : Launch) (G : GG) (h0 : Nat) (xx : Int32) (nw : Nat) (nk : Nat) (mhasKept : Int32) (nt : Nat) (mtaped : Int32) (nr : Nat) (mrowMany : Int32) (mroundOf : Int32) (mroundFrom : Int32) (mouts : Int32) (nm : Nat) (mfromHour : Int32) (mtoHour : Int32) (ns : Nat) (mfrom : Int32) (mto : Int32) (msort : Int32) (misFault : Int32) (mdeep : Int32) (mcoded : Int32) (mlines : Int32) (nl : Nat) (nc : Nat) (nF : Nat) (np : Nat) (ntr : Nat) (nb : Nat) (mbestCost : Int32) (nso : Nat) (nsi : Nat) (nit : Nat) (nsh : Nat) (nsf : Nat) (nss : Nat) (nrc : Nat) (jr : Nat) (jd : Nat) (mnumber : Int32) (mwhose : Int32) (msize : Int32) (misParted : Int32) (fnrc : Nat → Int32) (hjr : jr ≤ 30) (hjd : jd < 7) : K_m_from40 l G h0 xx nw nk mhasKept nt mtaped nr mrowMany mroundOf mroundFrom mouts nm mfromHour mtoHour ns mfrom mto msort misFault mdeep mcoded mlines nl nc nF np ntr nb mbestCost nso nsi nit nsh nsf nss nrc jr jd mnumber mwhose msize misParted fnrc := by
  refine MI.start (by decide +kernel) (Nat.le_of_ble_eq_true rfl) ?_
  intro p e s m below meth c A ls hC hK hP hD hS hA hl
  refine absQ (fun Q0 hQ0 => ?_)
  have hl : lv_has ls 5 [(0, .ref h0), (1, .int 4), (2, .int 0), (3, .int xx)] := hl
  refine Kan8 hC (fun hx hb hr hml hB hown hlocks hnm => ?_)
  refine lv_iload_n hx hb gX12_bodyFrom_0.1 rfl (lv_at1 hl) ?_
  refine lv_istore (lv' := [(4, .int 4), (0, .ref h0), (1, .int 4), (2, .int 0), (3, .int xx)]) hx hb gX12_bodyFrom_0.2.1 hl (by decide) rfl (fun ls hl => ?_)
  refine lv_iload hx hb gX12_bodyFrom_0.2.2.1 (lv_at0 hl) ?_
  refine lv_iload_n hx hb gX12_bodyFrom_0.2.2.2.1 rfl (lv_at3 hl) ?_
  refine pS hC hK hl (m_hasOwn40 l G) si_X12_360 rfl rfl (Nat.le_of_ble_eq_true rfl) rm_6_1_2 ⟨by first | exact Nat.le_of_ble_eq_true rfl | exact Nat.zero_le _, by first | exact Nat.le_of_ble_eq_true rfl | exact Nat.zero_le _⟩ gX12_bodyFrom_0.2.2.2.2.1 (Keqr ?_)
  refine lv_if_ne (tgt := 22) hx hb gX12_bodyFrom_0.2.2.2.2.2.1 (by decide) (fun _ => ?_) (fun c9 => absurd c9 (by decide))
  refine lv_aload_n hx hb gX12_bodyFrom_1.1 rfl (lv_at1 hl) ?_
  refine lv_iload hx hb gX12_bodyFrom_1.2.1 (lv_at0 hl) ?_
  refine lv_iload_n hx hb gX12_bodyFrom_1.2.2.1 rfl (lv_at3 hl) ?_
  refine lv_iload_n hx hb gX12_bodyFrom_1.2.2.2.1 rfl (lv_at4 hl) ?_
  refine iV (wr := []) hC hK hl hP hD hS hA (m_body40 l G h0 xx nw nk mhasKept nt mtaped nr mrowMany mroundOf mroundFrom mouts nm mfromHour mtoHour ns mfrom mto msort misFault mdeep mcoded mlines nl nc nF np ntr nb mbestCost nso nsi nit nsh nsf nss nrc jr jd mnumber mwhose msize misParted fnrc (hjr) (hjd)) si_X12_363 [0, 1] [] sm_0_1 fm_0_1 nd_0_1 rfl rfl (by decide) rfl rfl rfl rfl rfl (Nat.le_of_ble_eq_true rfl) rm_6_5_6 ⟨Nat.le_of_ble_eq_true rfl, Nat.le_of_ble_eq_true rfl⟩ gX12_bodyFrom_1.2.2.2.2.1 (fun r5616 => Ktu3 fun jr15618 ip15619 gtrc5620 => ?_)
  intro H locs hr5616 hP hD hS
  try dsimp only at hr5616
  refine Kpdr (ws := [(h0, oX12 nw nk mhasKept nt mtaped nr mrowMany mroundOf mroundFrom mouts nm mfromHour mtoHour ns mfrom mto msort misFault mdeep mcoded mlines nl nc nF np ntr nb mbestCost nso nsi nit nsh nsf nss nrc (nI jr15618) (nI jd) mnumber mwhose msize ip15619), (nrc, iA G 30 gtrc5620)]) hP hD (fun hP hD => ?_)
  obtain ⟨hr5616, w5621⟩ := hr5616
  refine toQ hQ0 ?_
  exact RI (v := r5616) hC hP hD hS [0, 1] (jr15618, ip15619, gtrc5620) rfl rfl (by decide) (⟨trivial, by omega⟩) rfl gX12_bodyFrom_1.2.2.2.2.2
def K_m_body50 (l : Launch) (G : GG) (h0 : Nat) (xx : Int32) (nw : Nat) (nk : Nat) (mhasKept : Int32) (nt : Nat) (mtaped : Int32) (nr : Nat) (mrowMany : Int32) (mroundOf : Int32) (mroundFrom : Int32) (mouts : Int32) (nm : Nat) (mfromHour : Int32) (mtoHour : Int32) (ns : Nat) (mfrom : Int32) (mto : Int32) (msort : Int32) (misFault : Int32) (mdeep : Int32) (mcoded : Int32) (mlines : Int32) (nl : Nat) (nc : Nat) (nF : Nat) (np : Nat) (ntr : Nat) (nb : Nat) (mbestCost : Int32) (nso : Nat) (nsi : Nat) (nit : Nat) (nsh : Nat) (nsf : Nat) (nss : Nat) (nrc : Nat) (jr : Nat) (jd : Nat) (mnumber : Int32) (mwhose : Int32) (msize : Int32) (misParted : Int32) (fnrc : Nat → Int32) : Prop := MI l G yX12_body cX12_body 6 (some .int) 7 0 0 [.ref h0, .int 5, .int 0, .int xx] [(h0, oX12 nw nk mhasKept nt mtaped nr mrowMany mroundOf mroundFrom mouts nm mfromHour mtoHour ns mfrom mto msort misFault mdeep mcoded mlines nl nc nF np ntr nb mbestCost nso nsi nit nsh nsf nss nrc (nI jr) (nI jd) mnumber mwhose msize misParted), (nrc, iA G 30 fnrc)] (fun (r : Int32) (u : Nat × Int32 × (Nat → Int32)) => (True) ∧ (u.1 ≤ 30)) (fun u : Nat × Int32 × (Nat → Int32) => [(h0, oX12 nw nk mhasKept nt mtaped nr mrowMany mroundOf mroundFrom mouts nm mfromHour mtoHour ns mfrom mto msort misFault mdeep mcoded mlines nl nc nF np ntr nb mbestCost nso nsi nit nsh nsf nss nrc (nI u.1) (nI jd) mnumber mwhose msize u.2.1), (nrc, iA G 30 u.2.2)])
set_option maxHeartbeats 4000000 in
set_option maxRecDepth 100000 in
theorem m_body50 (l : Launch) (G : GG) (h0 : Nat) (xx : Int32) (nw : Nat) (nk : Nat) (mhasKept : Int32) (nt : Nat) (mtaped : Int32) (nr : Nat) (mrowMany : Int32) (mroundOf : Int32) (mroundFrom : Int32) (mouts : Int32) (nm : Nat) (mfromHour : Int32) (mtoHour : Int32) (ns : Nat) (mfrom : Int32) (mto : Int32) (msort : Int32) (misFault : Int32) (mdeep : Int32) (mcoded : Int32) (mlines : Int32) (nl : Nat) (nc : Nat) (nF : Nat) (np : Nat) (ntr : Nat) (nb : Nat) (mbestCost : Int32) (nso : Nat) (nsi : Nat) (nit : Nat) (nsh : Nat) (nsf : Nat) (nss : Nat) (nrc : Nat) (jr : Nat) (jd : Nat) (mnumber : Int32) (mwhose : Int32) (msize : Int32) (misParted : Int32) (fnrc : Nat → Int32) (hjr : jr ≤ 30) (hjd : jd < 7) : K_m_body50 l G h0 xx nw nk mhasKept nt mtaped nr mrowMany mroundOf mroundFrom mouts nm mfromHour mtoHour ns mfrom mto msort misFault mdeep mcoded mlines nl nc nF np ntr nb mbestCost nso nsi nit nsh nsf nss nrc jr jd mnumber mwhose msize misParted fnrc := by
  refine MI.start (by decide +kernel) (Nat.le_of_ble_eq_true rfl) ?_
  intro p e s m below meth c A ls hC hK hP hD hS hA hl
  refine absQ (fun Q0 hQ0 => ?_)
  have hl : lv_has ls 6 [(0, .ref h0), (1, .int 5), (2, .int 0), (3, .int xx)] := hl
  refine Kan8 hC (fun hx hb hr hml hB hown hlocks hnm => ?_)
  refine lv_iconst (v := 4) hx hb gX12_body_0.1 (by decide) ?_
  refine lv_iload_n hx hb gX12_body_0.2.1 rfl (lv_at1 hl) ?_
  refine lv_imul hx hb gX12_body_0.2.2.1 ?_
  refine eqi (x1 := 20) (by decide) ?_
  refine lv_iload_n hx hb gX12_body_0.2.2.2.1 rfl (lv_at2 hl) ?_
  refine lv_iadd hx hb gX12_body_0.2.2.2.2.1 ?_
  refine eqi (x1 := 20) (by decide) ?_
  refine lv_tableIn (tgt := 334) hx hb gX12_body_0.2.2.2.2.2.1 (by decide) (by decide) rfl (by decide) ?_
  refine lv_aload_n hx hb gX12_body_14.2.2.2.2.2.1 rfl (lv_at0 hl) ?_
  refine lv_bipush (v := 61) hx hb gX12_body_14.2.2.2.2.2.2.1 (by decide) ?_
  refine vV (wr := []) hC hK hl hP hD hS hA (m_began l G h0 61 nw nk mhasKept nt mtaped nr mrowMany mroundOf mroundFrom mouts nm mfromHour mtoHour ns mfrom mto msort misFault mdeep mcoded mlines nl nc nF np ntr nb mbestCost nso nsi nit nsh nsf nss nrc jr (nI jd) mnumber mwhose msize misParted fnrc (hjr)) si_X12_366 [0, 1] [] sm_0_1 fm_0_1 nd_0_1 rfl rfl (by decide) rfl rfl rfl rfl rfl (Nat.le_of_ble_eq_true rfl) rm_7_1_2 ⟨Nat.le_of_ble_eq_true rfl, Nat.le_of_ble_eq_true rfl⟩ gX12_body_14.2.2.2.2.2.2.2.1 (Ktu2 fun jr15624 gtrc5625 => ?_)
  intro H locs hr5622 hP hD hS
  try dsimp only at hr5622
  refine Kpdr (ws := [(h0, oX12 nw nk mhasKept nt mtaped nr mrowMany mroundOf mroundFrom mouts nm mfromHour mtoHour ns mfrom mto msort misFault mdeep mcoded mlines nl nc nF np ntr nb mbestCost nso nsi nit nsh nsf nss nrc (nI jr15624) (nI jd) mnumber mwhose msize misParted), (nrc, iA G 30 gtrc5625)]) hP hD (fun hP hD => ?_)
  have w5626 := hr5622
  refine lv_aload_n hx hb gX12_body_14.2.2.2.2.2.2.2.2.1 rfl (lv_at0 hl) ?_
  refine lv_iconst (v := 4) hx hb gX12_body_14.2.2.2.2.2.2.2.2.2 (by decide) ?_
  refine lv_iconst (v := 0) hx hb gX12_body_15.1 (by decide) ?_
  refine lv_iload_n hx hb gX12_body_15.2.1 rfl (lv_at3 hl) ?_
  refine lv_aload_n hx hb gX12_body_15.2.2.1 rfl (lv_at0 hl) ?_
  refine gf_X12_375 hC rfl hK hP 0 rfl rfl gX12_body_15.2.2.2.1 ?_
  refine lv_iadd hx hb gX12_body_15.2.2.2.2.1 ?_
  refine iV (wr := []) hC hK hl hP hD hS hA (m_from40 l G h0 (xx + mwhose) nw nk mhasKept nt mtaped nr mrowMany mroundOf mroundFrom mouts nm mfromHour mtoHour ns mfrom mto msort misFault mdeep mcoded mlines nl nc nF np ntr nb mbestCost nso nsi nit nsh nsf nss nrc jr15624 jd mnumber mwhose msize misParted gtrc5625 (w5626) (hjd)) si_X12_357 [0, 1] [] sm_0_1 fm_0_1 nd_0_1 rfl rfl (by decide) rfl rfl rfl rfl rfl (Nat.le_of_ble_eq_true rfl) rm_7_6_5 ⟨Nat.le_of_ble_eq_true rfl, Nat.le_of_ble_eq_true rfl⟩ gX12_body_15.2.2.2.2.2.1 (fun r5627 => Ktu3 fun jr15629 ip15630 gtrc5631 => ?_)
  intro H locs hr5627 hP hD hS
  try dsimp only at hr5627
  refine Kpdr (ws := [(h0, oX12 nw nk mhasKept nt mtaped nr mrowMany mroundOf mroundFrom mouts nm mfromHour mtoHour ns mfrom mto msort misFault mdeep mcoded mlines nl nc nF np ntr nb mbestCost nso nsi nit nsh nsf nss nrc (nI jr15629) (nI jd) mnumber mwhose msize ip15630), (nrc, iA G 30 gtrc5631)]) hP hD (fun hP hD => ?_)
  obtain ⟨hr5627, w5632⟩ := hr5627
  refine toQ hQ0 ?_
  exact RI (v := r5627) hC hP hD hS [0, 1] (jr15629, ip15630, gtrc5631) rfl rfl (by decide) (⟨trivial, by omega⟩) rfl gX12_body_15.2.2.2.2.2.2.1
def K_m_from50 (l : Launch) (G : GG) (h0 : Nat) (xx : Int32) (nw : Nat) (nk : Nat) (mhasKept : Int32) (nt : Nat) (mtaped : Int32) (nr : Nat) (mrowMany : Int32) (mroundOf : Int32) (mroundFrom : Int32) (mouts : Int32) (nm : Nat) (mfromHour : Int32) (mtoHour : Int32) (ns : Nat) (mfrom : Int32) (mto : Int32) (msort : Int32) (misFault : Int32) (mdeep : Int32) (mcoded : Int32) (mlines : Int32) (nl : Nat) (nc : Nat) (nF : Nat) (np : Nat) (ntr : Nat) (nb : Nat) (mbestCost : Int32) (nso : Nat) (nsi : Nat) (nit : Nat) (nsh : Nat) (nsf : Nat) (nss : Nat) (nrc : Nat) (jr : Nat) (jd : Nat) (mnumber : Int32) (mwhose : Int32) (msize : Int32) (misParted : Int32) (fnrc : Nat → Int32) : Prop := MI l G yX12_bodyFrom cX12_bodyFrom 5 (some .int) 8 0 0 [.ref h0, .int 5, .int 0, .int xx] [(h0, oX12 nw nk mhasKept nt mtaped nr mrowMany mroundOf mroundFrom mouts nm mfromHour mtoHour ns mfrom mto msort misFault mdeep mcoded mlines nl nc nF np ntr nb mbestCost nso nsi nit nsh nsf nss nrc (nI jr) (nI jd) mnumber mwhose msize misParted), (nrc, iA G 30 fnrc)] (fun (r : Int32) (u : Nat × Int32 × (Nat → Int32)) => (True) ∧ (u.1 ≤ 30)) (fun u : Nat × Int32 × (Nat → Int32) => [(h0, oX12 nw nk mhasKept nt mtaped nr mrowMany mroundOf mroundFrom mouts nm mfromHour mtoHour ns mfrom mto msort misFault mdeep mcoded mlines nl nc nF np ntr nb mbestCost nso nsi nit nsh nsf nss nrc (nI u.1) (nI jd) mnumber mwhose msize u.2.1), (nrc, iA G 30 u.2.2)])
set_option maxHeartbeats 4000000 in
set_option maxRecDepth 100000 in
theorem m_from50 (l : Launch) (G : GG) (h0 : Nat) (xx : Int32) (nw : Nat) (nk : Nat) (mhasKept : Int32) (nt : Nat) (mtaped : Int32) (nr : Nat) (mrowMany : Int32) (mroundOf : Int32) (mroundFrom : Int32) (mouts : Int32) (nm : Nat) (mfromHour : Int32) (mtoHour : Int32) (ns : Nat) (mfrom : Int32) (mto : Int32) (msort : Int32) (misFault : Int32) (mdeep : Int32) (mcoded : Int32) (mlines : Int32) (nl : Nat) (nc : Nat) (nF : Nat) (np : Nat) (ntr : Nat) (nb : Nat) (mbestCost : Int32) (nso : Nat) (nsi : Nat) (nit : Nat) (nsh : Nat) (nsf : Nat) (nss : Nat) (nrc : Nat) (jr : Nat) (jd : Nat) (mnumber : Int32) (mwhose : Int32) (msize : Int32) (misParted : Int32) (fnrc : Nat → Int32) (hjr : jr ≤ 30) (hjd : jd < 7) : K_m_from50 l G h0 xx nw nk mhasKept nt mtaped nr mrowMany mroundOf mroundFrom mouts nm mfromHour mtoHour ns mfrom mto msort misFault mdeep mcoded mlines nl nc nF np ntr nb mbestCost nso nsi nit nsh nsf nss nrc jr jd mnumber mwhose msize misParted fnrc := by
  refine MI.start (by decide +kernel) (Nat.le_of_ble_eq_true rfl) ?_
  intro p e s m below meth c A ls hC hK hP hD hS hA hl
  refine absQ (fun Q0 hQ0 => ?_)
  have hl : lv_has ls 5 [(0, .ref h0), (1, .int 5), (2, .int 0), (3, .int xx)] := hl
  refine Kan8 hC (fun hx hb hr hml hB hown hlocks hnm => ?_)
  refine lv_iload_n hx hb gX12_bodyFrom_0.1 rfl (lv_at1 hl) ?_
  refine lv_istore (lv' := [(4, .int 5), (0, .ref h0), (1, .int 5), (2, .int 0), (3, .int xx)]) hx hb gX12_bodyFrom_0.2.1 hl (by decide) rfl (fun ls hl => ?_)
  refine lv_iload hx hb gX12_bodyFrom_0.2.2.1 (lv_at0 hl) ?_
  refine lv_iload_n hx hb gX12_bodyFrom_0.2.2.2.1 rfl (lv_at3 hl) ?_
  refine pS hC hK hl (m_hasOwn50 l G) si_X12_360 rfl rfl (Nat.le_of_ble_eq_true rfl) rm_8_1_2 ⟨by first | exact Nat.le_of_ble_eq_true rfl | exact Nat.zero_le _, by first | exact Nat.le_of_ble_eq_true rfl | exact Nat.zero_le _⟩ gX12_bodyFrom_0.2.2.2.2.1 (Keqr ?_)
  refine lv_if_ne (tgt := 22) hx hb gX12_bodyFrom_0.2.2.2.2.2.1 (by decide) (fun _ => ?_) (fun c9 => absurd c9 (by decide))
  refine lv_aload_n hx hb gX12_bodyFrom_1.1 rfl (lv_at1 hl) ?_
  refine lv_iload hx hb gX12_bodyFrom_1.2.1 (lv_at0 hl) ?_
  refine lv_iload_n hx hb gX12_bodyFrom_1.2.2.1 rfl (lv_at3 hl) ?_
  refine lv_iload_n hx hb gX12_bodyFrom_1.2.2.2.1 rfl (lv_at4 hl) ?_
  refine iV (wr := []) hC hK hl hP hD hS hA (m_body50 l G h0 xx nw nk mhasKept nt mtaped nr mrowMany mroundOf mroundFrom mouts nm mfromHour mtoHour ns mfrom mto msort misFault mdeep mcoded mlines nl nc nF np ntr nb mbestCost nso nsi nit nsh nsf nss nrc jr jd mnumber mwhose msize misParted fnrc (hjr) (hjd)) si_X12_363 [0, 1] [] sm_0_1 fm_0_1 nd_0_1 rfl rfl (by decide) rfl rfl rfl rfl rfl (Nat.le_of_ble_eq_true rfl) rm_8_7_6 ⟨Nat.le_of_ble_eq_true rfl, Nat.le_of_ble_eq_true rfl⟩ gX12_bodyFrom_1.2.2.2.2.1 (fun r5635 => Ktu3 fun jr15637 ip15638 gtrc5639 => ?_)
  intro H locs hr5635 hP hD hS
  try dsimp only at hr5635
  refine Kpdr (ws := [(h0, oX12 nw nk mhasKept nt mtaped nr mrowMany mroundOf mroundFrom mouts nm mfromHour mtoHour ns mfrom mto msort misFault mdeep mcoded mlines nl nc nF np ntr nb mbestCost nso nsi nit nsh nsf nss nrc (nI jr15637) (nI jd) mnumber mwhose msize ip15638), (nrc, iA G 30 gtrc5639)]) hP hD (fun hP hD => ?_)
  obtain ⟨hr5635, w5640⟩ := hr5635
  refine toQ hQ0 ?_
  exact RI (v := r5635) hC hP hD hS [0, 1] (jr15637, ip15638, gtrc5639) rfl rfl (by decide) (⟨trivial, by omega⟩) rfl gX12_bodyFrom_1.2.2.2.2.2
def K_m_from10 (l : Launch) (G : GG) (h0 : Nat) (xx : Int32) (nw : Nat) (nk : Nat) (mhasKept : Int32) (nt : Nat) (mtaped : Int32) (nr : Nat) (mrowMany : Int32) (mroundOf : Int32) (mroundFrom : Int32) (mouts : Int32) (nm : Nat) (mfromHour : Int32) (mtoHour : Int32) (ns : Nat) (mfrom : Int32) (mto : Int32) (msort : Int32) (misFault : Int32) (mdeep : Int32) (mcoded : Int32) (mlines : Int32) (nl : Nat) (nc : Nat) (nF : Nat) (np : Nat) (ntr : Nat) (nb : Nat) (mbestCost : Int32) (nso : Nat) (nsi : Nat) (nit : Nat) (nsh : Nat) (nsf : Nat) (nss : Nat) (nrc : Nat) (jr : Nat) (jd : Nat) (mnumber : Int32) (mwhose : Int32) (msize : Int32) (misParted : Int32) (fnrc : Nat → Int32) : Prop := MI l G yX12_bodyFrom cX12_bodyFrom 5 (some .int) 12 0 0 [.ref h0, .int 1, .int 0, .int xx] [(h0, oX12 nw nk mhasKept nt mtaped nr mrowMany mroundOf mroundFrom mouts nm mfromHour mtoHour ns mfrom mto msort misFault mdeep mcoded mlines nl nc nF np ntr nb mbestCost nso nsi nit nsh nsf nss nrc (nI jr) (nI jd) mnumber mwhose msize misParted), (nrc, iA G 30 fnrc)] (fun (r : Int32) (u : Nat × Int32 × (Nat → Int32)) => (True) ∧ (u.1 ≤ 30)) (fun u : Nat × Int32 × (Nat → Int32) => [(h0, oX12 nw nk mhasKept nt mtaped nr mrowMany mroundOf mroundFrom mouts nm mfromHour mtoHour ns mfrom mto msort misFault mdeep mcoded mlines nl nc nF np ntr nb mbestCost nso nsi nit nsh nsf nss nrc (nI u.1) (nI jd) mnumber mwhose msize u.2.1), (nrc, iA G 30 u.2.2)])
set_option maxHeartbeats 4000000 in
set_option maxRecDepth 100000 in
theorem m_from10 (l : Launch) (G : GG) (h0 : Nat) (xx : Int32) (nw : Nat) (nk : Nat) (mhasKept : Int32) (nt : Nat) (mtaped : Int32) (nr : Nat) (mrowMany : Int32) (mroundOf : Int32) (mroundFrom : Int32) (mouts : Int32) (nm : Nat) (mfromHour : Int32) (mtoHour : Int32) (ns : Nat) (mfrom : Int32) (mto : Int32) (msort : Int32) (misFault : Int32) (mdeep : Int32) (mcoded : Int32) (mlines : Int32) (nl : Nat) (nc : Nat) (nF : Nat) (np : Nat) (ntr : Nat) (nb : Nat) (mbestCost : Int32) (nso : Nat) (nsi : Nat) (nit : Nat) (nsh : Nat) (nsf : Nat) (nss : Nat) (nrc : Nat) (jr : Nat) (jd : Nat) (mnumber : Int32) (mwhose : Int32) (msize : Int32) (misParted : Int32) (fnrc : Nat → Int32) (hjr : jr ≤ 30) (hjd : jd < 7) : K_m_from10 l G h0 xx nw nk mhasKept nt mtaped nr mrowMany mroundOf mroundFrom mouts nm mfromHour mtoHour ns mfrom mto msort misFault mdeep mcoded mlines nl nc nF np ntr nb mbestCost nso nsi nit nsh nsf nss nrc jr jd mnumber mwhose msize misParted fnrc := by
  refine MI.start (by decide +kernel) (Nat.le_of_ble_eq_true rfl) ?_
  intro p e s m below meth c A ls hC hK hP hD hS hA hl
  refine absQ (fun Q0 hQ0 => ?_)
  have hl : lv_has ls 5 [(0, .ref h0), (1, .int 1), (2, .int 0), (3, .int xx)] := hl
  refine Kan8 hC (fun hx hb hr hml hB hown hlocks hnm => ?_)
  refine lv_iload_n hx hb gX12_bodyFrom_0.1 rfl (lv_at1 hl) ?_
  refine lv_istore (lv' := [(4, .int 1), (0, .ref h0), (1, .int 1), (2, .int 0), (3, .int xx)]) hx hb gX12_bodyFrom_0.2.1 hl (by decide) rfl (fun ls hl => ?_)
  refine lv_iload hx hb gX12_bodyFrom_0.2.2.1 (lv_at0 hl) ?_
  refine lv_iload_n hx hb gX12_bodyFrom_0.2.2.2.1 rfl (lv_at3 hl) ?_
  refine pS hC hK hl (m_hasOwn10 l G) si_X12_360 rfl rfl (Nat.le_of_ble_eq_true rfl) rm_12_1_2 ⟨by first | exact Nat.le_of_ble_eq_true rfl | exact Nat.zero_le _, by first | exact Nat.le_of_ble_eq_true rfl | exact Nat.zero_le _⟩ gX12_bodyFrom_0.2.2.2.2.1 (Keqr ?_)
  refine lv_if_ne (tgt := 22) hx hb gX12_bodyFrom_0.2.2.2.2.2.1 (by decide) (fun c9 => absurd (by decide) c9) (fun _ => ?_)
  refine lv_iload hx hb gX12_bodyFrom_0.2.2.2.2.2.2.1 (lv_at0 hl) ?_
  refine pS hC hK hl (m_above1 l G) si_X12_348 rfl rfl (Nat.le_of_ble_eq_true rfl) rm_12_1_1 ⟨by first | exact Nat.le_of_ble_eq_true rfl | exact Nat.zero_le _, by first | exact Nat.le_of_ble_eq_true rfl | exact Nat.zero_le _⟩ gX12_bodyFrom_0.2.2.2.2.2.2.2.1 (Keqr ?_)
  refine lv_istore (lv' := [(4, .int 0), (0, .ref h0), (1, .int 1), (2, .int 0), (3, .int xx)]) hx hb gX12_bodyFrom_0.2.2.2.2.2.2.2.2.1 hl (by decide) rfl (fun ls hl => ?_)
  refine lv_goto (tgt := 3) hx hb gX12_bodyFrom_0.2.2.2.2.2.2.2.2.2 (by decide) ?_
  refine lv_iload hx hb gX12_bodyFrom_0.2.2.1 (lv_at0 hl) ?_
  refine lv_iload_n hx hb gX12_bodyFrom_0.2.2.2.1 rfl (lv_at3 hl) ?_
  refine pS hC hK hl (m_hasOwn00 l G) si_X12_360 rfl rfl (Nat.le_of_ble_eq_true rfl) rm_12_1_2 ⟨by first | exact Nat.le_of_ble_eq_true rfl | exact Nat.zero_le _, by first | exact Nat.le_of_ble_eq_true rfl | exact Nat.zero_le _⟩ gX12_bodyFrom_0.2.2.2.2.1 (Keqr ?_)
  refine lv_if_ne (tgt := 22) hx hb gX12_bodyFrom_0.2.2.2.2.2.1 (by decide) (fun _ => ?_) (fun c9 => absurd c9 (by decide))
  refine lv_aload_n hx hb gX12_bodyFrom_1.1 rfl (lv_at1 hl) ?_
  refine lv_iload hx hb gX12_bodyFrom_1.2.1 (lv_at0 hl) ?_
  refine lv_iload_n hx hb gX12_bodyFrom_1.2.2.1 rfl (lv_at3 hl) ?_
  refine lv_iload_n hx hb gX12_bodyFrom_1.2.2.2.1 rfl (lv_at4 hl) ?_
  refine iV (wr := []) hC hK hl hP hD hS hA (m_body00 l G h0 xx nw nk mhasKept nt mtaped nr mrowMany mroundOf mroundFrom mouts nm mfromHour mtoHour ns mfrom mto msort misFault mdeep mcoded mlines nl nc nF np ntr nb mbestCost nso nsi nit nsh nsf nss nrc jr jd mnumber mwhose msize misParted fnrc (hjr) (hjd)) si_X12_363 [0, 1] [] sm_0_1 fm_0_1 nd_0_1 rfl rfl (by decide) rfl rfl rfl rfl rfl (Nat.le_of_ble_eq_true rfl) rm_12_3_6 ⟨Nat.le_of_ble_eq_true rfl, Nat.le_of_ble_eq_true rfl⟩ gX12_bodyFrom_1.2.2.2.2.1 (fun r5647 => Ktu3 fun jr15649 ip15650 gtrc5651 => ?_)
  intro H locs hr5647 hP hD hS
  try dsimp only at hr5647
  refine Kpdr (ws := [(h0, oX12 nw nk mhasKept nt mtaped nr mrowMany mroundOf mroundFrom mouts nm mfromHour mtoHour ns mfrom mto msort misFault mdeep mcoded mlines nl nc nF np ntr nb mbestCost nso nsi nit nsh nsf nss nrc (nI jr15649) (nI jd) mnumber mwhose msize ip15650), (nrc, iA G 30 gtrc5651)]) hP hD (fun hP hD => ?_)
  obtain ⟨hr5647, w5652⟩ := hr5647
  refine toQ hQ0 ?_
  exact RI (v := r5647) hC hP hD hS [0, 1] (jr15649, ip15650, gtrc5651) rfl rfl (by decide) (⟨trivial, by omega⟩) rfl gX12_bodyFrom_1.2.2.2.2.2
def K_m_from20 (l : Launch) (G : GG) (h0 : Nat) (xx : Int32) (nw : Nat) (nk : Nat) (mhasKept : Int32) (nt : Nat) (mtaped : Int32) (nr : Nat) (mrowMany : Int32) (mroundOf : Int32) (mroundFrom : Int32) (mouts : Int32) (nm : Nat) (mfromHour : Int32) (mtoHour : Int32) (ns : Nat) (mfrom : Int32) (mto : Int32) (msort : Int32) (misFault : Int32) (mdeep : Int32) (mcoded : Int32) (mlines : Int32) (nl : Nat) (nc : Nat) (nF : Nat) (np : Nat) (ntr : Nat) (nb : Nat) (mbestCost : Int32) (nso : Nat) (nsi : Nat) (nit : Nat) (nsh : Nat) (nsf : Nat) (nss : Nat) (nrc : Nat) (jr : Nat) (jd : Nat) (mnumber : Int32) (mwhose : Int32) (msize : Int32) (misParted : Int32) (fnrc : Nat → Int32) : Prop := MI l G yX12_bodyFrom cX12_bodyFrom 5 (some .int) 12 0 0 [.ref h0, .int 2, .int 0, .int xx] [(h0, oX12 nw nk mhasKept nt mtaped nr mrowMany mroundOf mroundFrom mouts nm mfromHour mtoHour ns mfrom mto msort misFault mdeep mcoded mlines nl nc nF np ntr nb mbestCost nso nsi nit nsh nsf nss nrc (nI jr) (nI jd) mnumber mwhose msize misParted), (nrc, iA G 30 fnrc)] (fun (r : Int32) (u : Nat × Int32 × (Nat → Int32)) => (True) ∧ (u.1 ≤ 30)) (fun u : Nat × Int32 × (Nat → Int32) => [(h0, oX12 nw nk mhasKept nt mtaped nr mrowMany mroundOf mroundFrom mouts nm mfromHour mtoHour ns mfrom mto msort misFault mdeep mcoded mlines nl nc nF np ntr nb mbestCost nso nsi nit nsh nsf nss nrc (nI u.1) (nI jd) mnumber mwhose msize u.2.1), (nrc, iA G 30 u.2.2)])
set_option maxHeartbeats 4000000 in
set_option maxRecDepth 100000 in
theorem m_from20 (l : Launch) (G : GG) (h0 : Nat) (xx : Int32) (nw : Nat) (nk : Nat) (mhasKept : Int32) (nt : Nat) (mtaped : Int32) (nr : Nat) (mrowMany : Int32) (mroundOf : Int32) (mroundFrom : Int32) (mouts : Int32) (nm : Nat) (mfromHour : Int32) (mtoHour : Int32) (ns : Nat) (mfrom : Int32) (mto : Int32) (msort : Int32) (misFault : Int32) (mdeep : Int32) (mcoded : Int32) (mlines : Int32) (nl : Nat) (nc : Nat) (nF : Nat) (np : Nat) (ntr : Nat) (nb : Nat) (mbestCost : Int32) (nso : Nat) (nsi : Nat) (nit : Nat) (nsh : Nat) (nsf : Nat) (nss : Nat) (nrc : Nat) (jr : Nat) (jd : Nat) (mnumber : Int32) (mwhose : Int32) (msize : Int32) (misParted : Int32) (fnrc : Nat → Int32) (hjr : jr ≤ 30) (hjd : jd < 7) : K_m_from20 l G h0 xx nw nk mhasKept nt mtaped nr mrowMany mroundOf mroundFrom mouts nm mfromHour mtoHour ns mfrom mto msort misFault mdeep mcoded mlines nl nc nF np ntr nb mbestCost nso nsi nit nsh nsf nss nrc jr jd mnumber mwhose msize misParted fnrc := by
  refine MI.start (by decide +kernel) (Nat.le_of_ble_eq_true rfl) ?_
  intro p e s m below meth c A ls hC hK hP hD hS hA hl
  refine absQ (fun Q0 hQ0 => ?_)
  have hl : lv_has ls 5 [(0, .ref h0), (1, .int 2), (2, .int 0), (3, .int xx)] := hl
  refine Kan8 hC (fun hx hb hr hml hB hown hlocks hnm => ?_)
  refine lv_iload_n hx hb gX12_bodyFrom_0.1 rfl (lv_at1 hl) ?_
  refine lv_istore (lv' := [(4, .int 2), (0, .ref h0), (1, .int 2), (2, .int 0), (3, .int xx)]) hx hb gX12_bodyFrom_0.2.1 hl (by decide) rfl (fun ls hl => ?_)
  refine lv_iload hx hb gX12_bodyFrom_0.2.2.1 (lv_at0 hl) ?_
  refine lv_iload_n hx hb gX12_bodyFrom_0.2.2.2.1 rfl (lv_at3 hl) ?_
  refine pS hC hK hl (m_hasOwn20 l G) si_X12_360 rfl rfl (Nat.le_of_ble_eq_true rfl) rm_12_1_2 ⟨by first | exact Nat.le_of_ble_eq_true rfl | exact Nat.zero_le _, by first | exact Nat.le_of_ble_eq_true rfl | exact Nat.zero_le _⟩ gX12_bodyFrom_0.2.2.2.2.1 (Keqr ?_)
  refine lv_if_ne (tgt := 22) hx hb gX12_bodyFrom_0.2.2.2.2.2.1 (by decide) (fun c9 => absurd (by decide) c9) (fun _ => ?_)
  refine lv_iload hx hb gX12_bodyFrom_0.2.2.2.2.2.2.1 (lv_at0 hl) ?_
  refine pS hC hK hl (m_above2 l G) si_X12_348 rfl rfl (Nat.le_of_ble_eq_true rfl) rm_12_1_1 ⟨by first | exact Nat.le_of_ble_eq_true rfl | exact Nat.zero_le _, by first | exact Nat.le_of_ble_eq_true rfl | exact Nat.zero_le _⟩ gX12_bodyFrom_0.2.2.2.2.2.2.2.1 (Keqr ?_)
  refine lv_istore (lv' := [(4, .int 0), (0, .ref h0), (1, .int 2), (2, .int 0), (3, .int xx)]) hx hb gX12_bodyFrom_0.2.2.2.2.2.2.2.2.1 hl (by decide) rfl (fun ls hl => ?_)
  refine lv_goto (tgt := 3) hx hb gX12_bodyFrom_0.2.2.2.2.2.2.2.2.2 (by decide) ?_
  refine lv_iload hx hb gX12_bodyFrom_0.2.2.1 (lv_at0 hl) ?_
  refine lv_iload_n hx hb gX12_bodyFrom_0.2.2.2.1 rfl (lv_at3 hl) ?_
  refine pS hC hK hl (m_hasOwn00 l G) si_X12_360 rfl rfl (Nat.le_of_ble_eq_true rfl) rm_12_1_2 ⟨by first | exact Nat.le_of_ble_eq_true rfl | exact Nat.zero_le _, by first | exact Nat.le_of_ble_eq_true rfl | exact Nat.zero_le _⟩ gX12_bodyFrom_0.2.2.2.2.1 (Keqr ?_)
  refine lv_if_ne (tgt := 22) hx hb gX12_bodyFrom_0.2.2.2.2.2.1 (by decide) (fun _ => ?_) (fun c9 => absurd c9 (by decide))
  refine lv_aload_n hx hb gX12_bodyFrom_1.1 rfl (lv_at1 hl) ?_
  refine lv_iload hx hb gX12_bodyFrom_1.2.1 (lv_at0 hl) ?_
  refine lv_iload_n hx hb gX12_bodyFrom_1.2.2.1 rfl (lv_at3 hl) ?_
  refine lv_iload_n hx hb gX12_bodyFrom_1.2.2.2.1 rfl (lv_at4 hl) ?_
  refine iV (wr := []) hC hK hl hP hD hS hA (m_body00 l G h0 xx nw nk mhasKept nt mtaped nr mrowMany mroundOf mroundFrom mouts nm mfromHour mtoHour ns mfrom mto msort misFault mdeep mcoded mlines nl nc nF np ntr nb mbestCost nso nsi nit nsh nsf nss nrc jr jd mnumber mwhose msize misParted fnrc (hjr) (hjd)) si_X12_363 [0, 1] [] sm_0_1 fm_0_1 nd_0_1 rfl rfl (by decide) rfl rfl rfl rfl rfl (Nat.le_of_ble_eq_true rfl) rm_12_3_6 ⟨Nat.le_of_ble_eq_true rfl, Nat.le_of_ble_eq_true rfl⟩ gX12_bodyFrom_1.2.2.2.2.1 (fun r5659 => Ktu3 fun jr15661 ip15662 gtrc5663 => ?_)
  intro H locs hr5659 hP hD hS
  try dsimp only at hr5659
  refine Kpdr (ws := [(h0, oX12 nw nk mhasKept nt mtaped nr mrowMany mroundOf mroundFrom mouts nm mfromHour mtoHour ns mfrom mto msort misFault mdeep mcoded mlines nl nc nF np ntr nb mbestCost nso nsi nit nsh nsf nss nrc (nI jr15661) (nI jd) mnumber mwhose msize ip15662), (nrc, iA G 30 gtrc5663)]) hP hD (fun hP hD => ?_)
  obtain ⟨hr5659, w5664⟩ := hr5659
  refine toQ hQ0 ?_
  exact RI (v := r5659) hC hP hD hS [0, 1] (jr15661, ip15662, gtrc5663) rfl rfl (by decide) (⟨trivial, by omega⟩) rfl gX12_bodyFrom_1.2.2.2.2.2
def K_m_from30 (l : Launch) (G : GG) (h0 : Nat) (xx : Int32) (nw : Nat) (nk : Nat) (mhasKept : Int32) (nt : Nat) (mtaped : Int32) (nr : Nat) (mrowMany : Int32) (mroundOf : Int32) (mroundFrom : Int32) (mouts : Int32) (nm : Nat) (mfromHour : Int32) (mtoHour : Int32) (ns : Nat) (mfrom : Int32) (mto : Int32) (msort : Int32) (misFault : Int32) (mdeep : Int32) (mcoded : Int32) (mlines : Int32) (nl : Nat) (nc : Nat) (nF : Nat) (np : Nat) (ntr : Nat) (nb : Nat) (mbestCost : Int32) (nso : Nat) (nsi : Nat) (nit : Nat) (nsh : Nat) (nsf : Nat) (nss : Nat) (nrc : Nat) (jr : Nat) (jd : Nat) (mnumber : Int32) (mwhose : Int32) (msize : Int32) (misParted : Int32) (fnrc : Nat → Int32) : Prop := MI l G yX12_bodyFrom cX12_bodyFrom 5 (some .int) 12 0 0 [.ref h0, .int 3, .int 0, .int xx] [(h0, oX12 nw nk mhasKept nt mtaped nr mrowMany mroundOf mroundFrom mouts nm mfromHour mtoHour ns mfrom mto msort misFault mdeep mcoded mlines nl nc nF np ntr nb mbestCost nso nsi nit nsh nsf nss nrc (nI jr) (nI jd) mnumber mwhose msize misParted), (nrc, iA G 30 fnrc)] (fun (r : Int32) (u : Nat × Int32 × (Nat → Int32)) => (True) ∧ (u.1 ≤ 30)) (fun u : Nat × Int32 × (Nat → Int32) => [(h0, oX12 nw nk mhasKept nt mtaped nr mrowMany mroundOf mroundFrom mouts nm mfromHour mtoHour ns mfrom mto msort misFault mdeep mcoded mlines nl nc nF np ntr nb mbestCost nso nsi nit nsh nsf nss nrc (nI u.1) (nI jd) mnumber mwhose msize u.2.1), (nrc, iA G 30 u.2.2)])
set_option maxHeartbeats 4000000 in
set_option maxRecDepth 100000 in
theorem m_from30 (l : Launch) (G : GG) (h0 : Nat) (xx : Int32) (nw : Nat) (nk : Nat) (mhasKept : Int32) (nt : Nat) (mtaped : Int32) (nr : Nat) (mrowMany : Int32) (mroundOf : Int32) (mroundFrom : Int32) (mouts : Int32) (nm : Nat) (mfromHour : Int32) (mtoHour : Int32) (ns : Nat) (mfrom : Int32) (mto : Int32) (msort : Int32) (misFault : Int32) (mdeep : Int32) (mcoded : Int32) (mlines : Int32) (nl : Nat) (nc : Nat) (nF : Nat) (np : Nat) (ntr : Nat) (nb : Nat) (mbestCost : Int32) (nso : Nat) (nsi : Nat) (nit : Nat) (nsh : Nat) (nsf : Nat) (nss : Nat) (nrc : Nat) (jr : Nat) (jd : Nat) (mnumber : Int32) (mwhose : Int32) (msize : Int32) (misParted : Int32) (fnrc : Nat → Int32) (hjr : jr ≤ 30) (hjd : jd < 7) : K_m_from30 l G h0 xx nw nk mhasKept nt mtaped nr mrowMany mroundOf mroundFrom mouts nm mfromHour mtoHour ns mfrom mto msort misFault mdeep mcoded mlines nl nc nF np ntr nb mbestCost nso nsi nit nsh nsf nss nrc jr jd mnumber mwhose msize misParted fnrc := by
  refine MI.start (by decide +kernel) (Nat.le_of_ble_eq_true rfl) ?_
  intro p e s m below meth c A ls hC hK hP hD hS hA hl
  refine absQ (fun Q0 hQ0 => ?_)
  have hl : lv_has ls 5 [(0, .ref h0), (1, .int 3), (2, .int 0), (3, .int xx)] := hl
  refine Kan8 hC (fun hx hb hr hml hB hown hlocks hnm => ?_)
  refine lv_iload_n hx hb gX12_bodyFrom_0.1 rfl (lv_at1 hl) ?_
  refine lv_istore (lv' := [(4, .int 3), (0, .ref h0), (1, .int 3), (2, .int 0), (3, .int xx)]) hx hb gX12_bodyFrom_0.2.1 hl (by decide) rfl (fun ls hl => ?_)
  refine lv_iload hx hb gX12_bodyFrom_0.2.2.1 (lv_at0 hl) ?_
  refine lv_iload_n hx hb gX12_bodyFrom_0.2.2.2.1 rfl (lv_at3 hl) ?_
  refine pS hC hK hl (m_hasOwn30 l G) si_X12_360 rfl rfl (Nat.le_of_ble_eq_true rfl) rm_12_1_2 ⟨by first | exact Nat.le_of_ble_eq_true rfl | exact Nat.zero_le _, by first | exact Nat.le_of_ble_eq_true rfl | exact Nat.zero_le _⟩ gX12_bodyFrom_0.2.2.2.2.1 (Keqr ?_)
  refine lv_if_ne (tgt := 22) hx hb gX12_bodyFrom_0.2.2.2.2.2.1 (by decide) (fun c9 => absurd (by decide) c9) (fun _ => ?_)
  refine lv_iload hx hb gX12_bodyFrom_0.2.2.2.2.2.2.1 (lv_at0 hl) ?_
  refine pS hC hK hl (m_above3 l G) si_X12_348 rfl rfl (Nat.le_of_ble_eq_true rfl) rm_12_1_1 ⟨by first | exact Nat.le_of_ble_eq_true rfl | exact Nat.zero_le _, by first | exact Nat.le_of_ble_eq_true rfl | exact Nat.zero_le _⟩ gX12_bodyFrom_0.2.2.2.2.2.2.2.1 (Keqr ?_)
  refine lv_istore (lv' := [(4, .int 1), (0, .ref h0), (1, .int 3), (2, .int 0), (3, .int xx)]) hx hb gX12_bodyFrom_0.2.2.2.2.2.2.2.2.1 hl (by decide) rfl (fun ls hl => ?_)
  refine lv_goto (tgt := 3) hx hb gX12_bodyFrom_0.2.2.2.2.2.2.2.2.2 (by decide) ?_
  refine lv_iload hx hb gX12_bodyFrom_0.2.2.1 (lv_at0 hl) ?_
  refine lv_iload_n hx hb gX12_bodyFrom_0.2.2.2.1 rfl (lv_at3 hl) ?_
  refine pS hC hK hl (m_hasOwn10 l G) si_X12_360 rfl rfl (Nat.le_of_ble_eq_true rfl) rm_12_1_2 ⟨by first | exact Nat.le_of_ble_eq_true rfl | exact Nat.zero_le _, by first | exact Nat.le_of_ble_eq_true rfl | exact Nat.zero_le _⟩ gX12_bodyFrom_0.2.2.2.2.1 (Keqr ?_)
  refine lv_if_ne (tgt := 22) hx hb gX12_bodyFrom_0.2.2.2.2.2.1 (by decide) (fun c9 => absurd (by decide) c9) (fun _ => ?_)
  refine lv_iload hx hb gX12_bodyFrom_0.2.2.2.2.2.2.1 (lv_at0 hl) ?_
  refine pS hC hK hl (m_above1 l G) si_X12_348 rfl rfl (Nat.le_of_ble_eq_true rfl) rm_12_1_1 ⟨by first | exact Nat.le_of_ble_eq_true rfl | exact Nat.zero_le _, by first | exact Nat.le_of_ble_eq_true rfl | exact Nat.zero_le _⟩ gX12_bodyFrom_0.2.2.2.2.2.2.2.1 (Keqr ?_)
  refine lv_istore (lv' := [(4, .int 0), (0, .ref h0), (1, .int 3), (2, .int 0), (3, .int xx)]) hx hb gX12_bodyFrom_0.2.2.2.2.2.2.2.2.1 hl (by decide) rfl (fun ls hl => ?_)
  refine lv_goto (tgt := 3) hx hb gX12_bodyFrom_0.2.2.2.2.2.2.2.2.2 (by decide) ?_
  refine lv_iload hx hb gX12_bodyFrom_0.2.2.1 (lv_at0 hl) ?_
  refine lv_iload_n hx hb gX12_bodyFrom_0.2.2.2.1 rfl (lv_at3 hl) ?_
  refine pS hC hK hl (m_hasOwn00 l G) si_X12_360 rfl rfl (Nat.le_of_ble_eq_true rfl) rm_12_1_2 ⟨by first | exact Nat.le_of_ble_eq_true rfl | exact Nat.zero_le _, by first | exact Nat.le_of_ble_eq_true rfl | exact Nat.zero_le _⟩ gX12_bodyFrom_0.2.2.2.2.1 (Keqr ?_)
  refine lv_if_ne (tgt := 22) hx hb gX12_bodyFrom_0.2.2.2.2.2.1 (by decide) (fun _ => ?_) (fun c9 => absurd c9 (by decide))
  refine lv_aload_n hx hb gX12_bodyFrom_1.1 rfl (lv_at1 hl) ?_
  refine lv_iload hx hb gX12_bodyFrom_1.2.1 (lv_at0 hl) ?_
  refine lv_iload_n hx hb gX12_bodyFrom_1.2.2.1 rfl (lv_at3 hl) ?_
  refine lv_iload_n hx hb gX12_bodyFrom_1.2.2.2.1 rfl (lv_at4 hl) ?_
  refine iV (wr := []) hC hK hl hP hD hS hA (m_body00 l G h0 xx nw nk mhasKept nt mtaped nr mrowMany mroundOf mroundFrom mouts nm mfromHour mtoHour ns mfrom mto msort misFault mdeep mcoded mlines nl nc nF np ntr nb mbestCost nso nsi nit nsh nsf nss nrc jr jd mnumber mwhose msize misParted fnrc (hjr) (hjd)) si_X12_363 [0, 1] [] sm_0_1 fm_0_1 nd_0_1 rfl rfl (by decide) rfl rfl rfl rfl rfl (Nat.le_of_ble_eq_true rfl) rm_12_3_6 ⟨Nat.le_of_ble_eq_true rfl, Nat.le_of_ble_eq_true rfl⟩ gX12_bodyFrom_1.2.2.2.2.1 (fun r5675 => Ktu3 fun jr15677 ip15678 gtrc5679 => ?_)
  intro H locs hr5675 hP hD hS
  try dsimp only at hr5675
  refine Kpdr (ws := [(h0, oX12 nw nk mhasKept nt mtaped nr mrowMany mroundOf mroundFrom mouts nm mfromHour mtoHour ns mfrom mto msort misFault mdeep mcoded mlines nl nc nF np ntr nb mbestCost nso nsi nit nsh nsf nss nrc (nI jr15677) (nI jd) mnumber mwhose msize ip15678), (nrc, iA G 30 gtrc5679)]) hP hD (fun hP hD => ?_)
  obtain ⟨hr5675, w5680⟩ := hr5675
  refine toQ hQ0 ?_
  exact RI (v := r5675) hC hP hD hS [0, 1] (jr15677, ip15678, gtrc5679) rfl rfl (by decide) (⟨trivial, by omega⟩) rfl gX12_bodyFrom_1.2.2.2.2.2
def K_m_from60 (l : Launch) (G : GG) (h0 : Nat) (xx : Int32) (nw : Nat) (nk : Nat) (mhasKept : Int32) (nt : Nat) (mtaped : Int32) (nr : Nat) (mrowMany : Int32) (mroundOf : Int32) (mroundFrom : Int32) (mouts : Int32) (nm : Nat) (mfromHour : Int32) (mtoHour : Int32) (ns : Nat) (mfrom : Int32) (mto : Int32) (msort : Int32) (misFault : Int32) (mdeep : Int32) (mcoded : Int32) (mlines : Int32) (nl : Nat) (nc : Nat) (nF : Nat) (np : Nat) (ntr : Nat) (nb : Nat) (mbestCost : Int32) (nso : Nat) (nsi : Nat) (nit : Nat) (nsh : Nat) (nsf : Nat) (nss : Nat) (nrc : Nat) (jr : Nat) (jd : Nat) (mnumber : Int32) (mwhose : Int32) (msize : Int32) (misParted : Int32) (fnrc : Nat → Int32) : Prop := MI l G yX12_bodyFrom cX12_bodyFrom 5 (some .int) 12 0 0 [.ref h0, .int 6, .int 0, .int xx] [(h0, oX12 nw nk mhasKept nt mtaped nr mrowMany mroundOf mroundFrom mouts nm mfromHour mtoHour ns mfrom mto msort misFault mdeep mcoded mlines nl nc nF np ntr nb mbestCost nso nsi nit nsh nsf nss nrc (nI jr) (nI jd) mnumber mwhose msize misParted), (nrc, iA G 30 fnrc)] (fun (r : Int32) (u : Nat × Int32 × (Nat → Int32)) => (True) ∧ (u.1 ≤ 30)) (fun u : Nat × Int32 × (Nat → Int32) => [(h0, oX12 nw nk mhasKept nt mtaped nr mrowMany mroundOf mroundFrom mouts nm mfromHour mtoHour ns mfrom mto msort misFault mdeep mcoded mlines nl nc nF np ntr nb mbestCost nso nsi nit nsh nsf nss nrc (nI u.1) (nI jd) mnumber mwhose msize u.2.1), (nrc, iA G 30 u.2.2)])
set_option maxHeartbeats 4000000 in
set_option maxRecDepth 100000 in
theorem m_from60 (l : Launch) (G : GG) (h0 : Nat) (xx : Int32) (nw : Nat) (nk : Nat) (mhasKept : Int32) (nt : Nat) (mtaped : Int32) (nr : Nat) (mrowMany : Int32) (mroundOf : Int32) (mroundFrom : Int32) (mouts : Int32) (nm : Nat) (mfromHour : Int32) (mtoHour : Int32) (ns : Nat) (mfrom : Int32) (mto : Int32) (msort : Int32) (misFault : Int32) (mdeep : Int32) (mcoded : Int32) (mlines : Int32) (nl : Nat) (nc : Nat) (nF : Nat) (np : Nat) (ntr : Nat) (nb : Nat) (mbestCost : Int32) (nso : Nat) (nsi : Nat) (nit : Nat) (nsh : Nat) (nsf : Nat) (nss : Nat) (nrc : Nat) (jr : Nat) (jd : Nat) (mnumber : Int32) (mwhose : Int32) (msize : Int32) (misParted : Int32) (fnrc : Nat → Int32) (hjr : jr ≤ 30) (hjd : jd < 7) : K_m_from60 l G h0 xx nw nk mhasKept nt mtaped nr mrowMany mroundOf mroundFrom mouts nm mfromHour mtoHour ns mfrom mto msort misFault mdeep mcoded mlines nl nc nF np ntr nb mbestCost nso nsi nit nsh nsf nss nrc jr jd mnumber mwhose msize misParted fnrc := by
  refine MI.start (by decide +kernel) (Nat.le_of_ble_eq_true rfl) ?_
  intro p e s m below meth c A ls hC hK hP hD hS hA hl
  refine absQ (fun Q0 hQ0 => ?_)
  have hl : lv_has ls 5 [(0, .ref h0), (1, .int 6), (2, .int 0), (3, .int xx)] := hl
  refine Kan8 hC (fun hx hb hr hml hB hown hlocks hnm => ?_)
  refine lv_iload_n hx hb gX12_bodyFrom_0.1 rfl (lv_at1 hl) ?_
  refine lv_istore (lv' := [(4, .int 6), (0, .ref h0), (1, .int 6), (2, .int 0), (3, .int xx)]) hx hb gX12_bodyFrom_0.2.1 hl (by decide) rfl (fun ls hl => ?_)
  refine lv_iload hx hb gX12_bodyFrom_0.2.2.1 (lv_at0 hl) ?_
  refine lv_iload_n hx hb gX12_bodyFrom_0.2.2.2.1 rfl (lv_at3 hl) ?_
  refine pS hC hK hl (m_hasOwn60 l G) si_X12_360 rfl rfl (Nat.le_of_ble_eq_true rfl) rm_12_1_2 ⟨by first | exact Nat.le_of_ble_eq_true rfl | exact Nat.zero_le _, by first | exact Nat.le_of_ble_eq_true rfl | exact Nat.zero_le _⟩ gX12_bodyFrom_0.2.2.2.2.1 (Keqr ?_)
  refine lv_if_ne (tgt := 22) hx hb gX12_bodyFrom_0.2.2.2.2.2.1 (by decide) (fun c9 => absurd (by decide) c9) (fun _ => ?_)
  refine lv_iload hx hb gX12_bodyFrom_0.2.2.2.2.2.2.1 (lv_at0 hl) ?_
  refine pS hC hK hl (m_above6 l G) si_X12_348 rfl rfl (Nat.le_of_ble_eq_true rfl) rm_12_1_1 ⟨by first | exact Nat.le_of_ble_eq_true rfl | exact Nat.zero_le _, by first | exact Nat.le_of_ble_eq_true rfl | exact Nat.zero_le _⟩ gX12_bodyFrom_0.2.2.2.2.2.2.2.1 (Keqr ?_)
  refine lv_istore (lv' := [(4, .int 0), (0, .ref h0), (1, .int 6), (2, .int 0), (3, .int xx)]) hx hb gX12_bodyFrom_0.2.2.2.2.2.2.2.2.1 hl (by decide) rfl (fun ls hl => ?_)
  refine lv_goto (tgt := 3) hx hb gX12_bodyFrom_0.2.2.2.2.2.2.2.2.2 (by decide) ?_
  refine lv_iload hx hb gX12_bodyFrom_0.2.2.1 (lv_at0 hl) ?_
  refine lv_iload_n hx hb gX12_bodyFrom_0.2.2.2.1 rfl (lv_at3 hl) ?_
  refine pS hC hK hl (m_hasOwn00 l G) si_X12_360 rfl rfl (Nat.le_of_ble_eq_true rfl) rm_12_1_2 ⟨by first | exact Nat.le_of_ble_eq_true rfl | exact Nat.zero_le _, by first | exact Nat.le_of_ble_eq_true rfl | exact Nat.zero_le _⟩ gX12_bodyFrom_0.2.2.2.2.1 (Keqr ?_)
  refine lv_if_ne (tgt := 22) hx hb gX12_bodyFrom_0.2.2.2.2.2.1 (by decide) (fun _ => ?_) (fun c9 => absurd c9 (by decide))
  refine lv_aload_n hx hb gX12_bodyFrom_1.1 rfl (lv_at1 hl) ?_
  refine lv_iload hx hb gX12_bodyFrom_1.2.1 (lv_at0 hl) ?_
  refine lv_iload_n hx hb gX12_bodyFrom_1.2.2.1 rfl (lv_at3 hl) ?_
  refine lv_iload_n hx hb gX12_bodyFrom_1.2.2.2.1 rfl (lv_at4 hl) ?_
  refine iV (wr := []) hC hK hl hP hD hS hA (m_body00 l G h0 xx nw nk mhasKept nt mtaped nr mrowMany mroundOf mroundFrom mouts nm mfromHour mtoHour ns mfrom mto msort misFault mdeep mcoded mlines nl nc nF np ntr nb mbestCost nso nsi nit nsh nsf nss nrc jr jd mnumber mwhose msize misParted fnrc (hjr) (hjd)) si_X12_363 [0, 1] [] sm_0_1 fm_0_1 nd_0_1 rfl rfl (by decide) rfl rfl rfl rfl rfl (Nat.le_of_ble_eq_true rfl) rm_12_3_6 ⟨Nat.le_of_ble_eq_true rfl, Nat.le_of_ble_eq_true rfl⟩ gX12_bodyFrom_1.2.2.2.2.1 (fun r5687 => Ktu3 fun jr15689 ip15690 gtrc5691 => ?_)
  intro H locs hr5687 hP hD hS
  try dsimp only at hr5687
  refine Kpdr (ws := [(h0, oX12 nw nk mhasKept nt mtaped nr mrowMany mroundOf mroundFrom mouts nm mfromHour mtoHour ns mfrom mto msort misFault mdeep mcoded mlines nl nc nF np ntr nb mbestCost nso nsi nit nsh nsf nss nrc (nI jr15689) (nI jd) mnumber mwhose msize ip15690), (nrc, iA G 30 gtrc5691)]) hP hD (fun hP hD => ?_)
  obtain ⟨hr5687, w5692⟩ := hr5687
  refine toQ hQ0 ?_
  exact RI (v := r5687) hC hP hD hS [0, 1] (jr15689, ip15690, gtrc5691) rfl rfl (by decide) (⟨trivial, by omega⟩) rfl gX12_bodyFrom_1.2.2.2.2.2
def K_m_dealt0 (l : Launch) (G : GG) (h0 : Nat) (xx : Int32) (nw : Nat) (nk : Nat) (mhasKept : Int32) (nt : Nat) (mtaped : Int32) (nr : Nat) (mrowMany : Int32) (mroundOf : Int32) (mroundFrom : Int32) (mouts : Int32) (nm : Nat) (mfromHour : Int32) (mtoHour : Int32) (ns : Nat) (mfrom : Int32) (mto : Int32) (msort : Int32) (misFault : Int32) (mdeep : Int32) (mcoded : Int32) (mlines : Int32) (nl : Nat) (nc : Nat) (nF : Nat) (np : Nat) (ntr : Nat) (nb : Nat) (mbestCost : Int32) (nso : Nat) (nsi : Nat) (nit : Nat) (nsh : Nat) (nsf : Nat) (nss : Nat) (nrc : Nat) (jr : Nat) (jd : Nat) (mnumber : Int32) (mwhose : Int32) (msize : Int32) (misParted : Int32) (fnrc : Nat → Int32) : Prop := MI l G yX12_dealt cX12_dealt 3 (some .int) 14 0 0 [.ref h0, .int 0, .int xx] [(h0, oX12 nw nk mhasKept nt mtaped nr mrowMany mroundOf mroundFrom mouts nm mfromHour mtoHour ns mfrom mto msort misFault mdeep mcoded mlines nl nc nF np ntr nb mbestCost nso nsi nit nsh nsf nss nrc (nI jr) (nI jd) mnumber mwhose msize misParted), (nrc, iA G 30 fnrc)] (fun (r : Int32) (u : Nat × Int32 × (Nat → Int32)) => (True) ∧ (u.1 ≤ 30)) (fun u : Nat × Int32 × (Nat → Int32) => [(h0, oX12 nw nk mhasKept nt mtaped nr mrowMany mroundOf mroundFrom mouts nm mfromHour mtoHour ns mfrom mto msort misFault mdeep mcoded mlines nl nc nF np ntr nb mbestCost nso nsi nit nsh nsf nss nrc (nI u.1) (nI jd) mnumber mwhose msize u.2.1), (nrc, iA G 30 u.2.2)])
set_option maxHeartbeats 4000000 in
set_option maxRecDepth 100000 in
theorem m_dealt0 (l : Launch) (G : GG) (h0 : Nat) (xx : Int32) (nw : Nat) (nk : Nat) (mhasKept : Int32) (nt : Nat) (mtaped : Int32) (nr : Nat) (mrowMany : Int32) (mroundOf : Int32) (mroundFrom : Int32) (mouts : Int32) (nm : Nat) (mfromHour : Int32) (mtoHour : Int32) (ns : Nat) (mfrom : Int32) (mto : Int32) (msort : Int32) (misFault : Int32) (mdeep : Int32) (mcoded : Int32) (mlines : Int32) (nl : Nat) (nc : Nat) (nF : Nat) (np : Nat) (ntr : Nat) (nb : Nat) (mbestCost : Int32) (nso : Nat) (nsi : Nat) (nit : Nat) (nsh : Nat) (nsf : Nat) (nss : Nat) (nrc : Nat) (jr : Nat) (jd : Nat) (mnumber : Int32) (mwhose : Int32) (msize : Int32) (misParted : Int32) (fnrc : Nat → Int32) (hjr : jr ≤ 30) (hjd : jd < 7) : K_m_dealt0 l G h0 xx nw nk mhasKept nt mtaped nr mrowMany mroundOf mroundFrom mouts nm mfromHour mtoHour ns mfrom mto msort misFault mdeep mcoded mlines nl nc nF np ntr nb mbestCost nso nsi nit nsh nsf nss nrc jr jd mnumber mwhose msize misParted fnrc := by
  refine MI.start (by decide +kernel) (Nat.le_of_ble_eq_true rfl) ?_
  intro p e s m below meth c A ls hC hK hP hD hS hA hl
  refine absQ (fun Q0 hQ0 => ?_)
  have hl : lv_has ls 3 [(0, .ref h0), (1, .int 0), (2, .int xx)] := hl
  refine Kan8 hC (fun hx hb hr hml hB hown hlocks hnm => ?_)
  refine lv_aload_n hx hb gX12_dealt_0.1 rfl (lv_at0 hl) ?_
  refine lv_aload_n hx hb gX12_dealt_0.2.1 rfl (lv_at0 hl) ?_
  refine gf_X12_354 hC rfl hK hP 0 rfl rfl gX12_dealt_0.2.2.1 ?_
  refine lv_iload_n hx hb gX12_dealt_0.2.2.2.1 rfl (lv_at1 hl) ?_
  refine lv_iload_n hx hb gX12_dealt_0.2.2.2.2.1 rfl (lv_at2 hl) ?_
  rcases (show jd = 0 ∨ jd = 1 ∨ jd = 2 ∨ jd = 3 ∨ jd = 4 ∨ jd = 5 ∨ jd = 6 by omega) with rfl | rfl | rfl | rfl | rfl | rfl | rfl
  · refine iV (wr := []) hC hK hl hP hD hS hA (m_from00 l G h0 xx nw nk mhasKept nt mtaped nr mrowMany mroundOf mroundFrom mouts nm mfromHour mtoHour ns mfrom mto msort misFault mdeep mcoded mlines nl nc nF np ntr nb mbestCost nso nsi nit nsh nsf nss nrc jr 0 mnumber mwhose msize misParted fnrc (hjr) (hjd)) si_X12_357 [0, 1] [] sm_0_1 fm_0_1 nd_0_1 rfl rfl (by decide) rfl rfl rfl rfl rfl (Nat.le_of_ble_eq_true rfl) rm_14_4_5 ⟨Nat.le_of_ble_eq_true rfl, Nat.le_of_ble_eq_true rfl⟩ gX12_dealt_0.2.2.2.2.2.1 (fun r5693 => Ktu3 fun jr15695 ip15696 gtrc5697 => ?_)
    intro H locs hr5693 hP hD hS
    try dsimp only at hr5693
    refine Kpdr (ws := [(h0, oX12 nw nk mhasKept nt mtaped nr mrowMany mroundOf mroundFrom mouts nm mfromHour mtoHour ns mfrom mto msort misFault mdeep mcoded mlines nl nc nF np ntr nb mbestCost nso nsi nit nsh nsf nss nrc (nI jr15695) 0 mnumber mwhose msize ip15696), (nrc, iA G 30 gtrc5697)]) hP hD (fun hP hD => ?_)
    obtain ⟨hr5693, w5698⟩ := hr5693
    refine toQ hQ0 ?_
    exact RI (v := r5693) hC hP hD hS [0, 1] (jr15695, ip15696, gtrc5697) rfl rfl (by decide) (⟨trivial, by omega⟩) rfl gX12_dealt_0.2.2.2.2.2.2
  · refine iV (wr := []) hC hK hl hP hD hS hA (m_from10 l G h0 xx nw nk mhasKept nt mtaped nr mrowMany mroundOf mroundFrom mouts nm mfromHour mtoHour ns mfrom mto msort misFault mdeep mcoded mlines nl nc nF np ntr nb mbestCost nso nsi nit nsh nsf nss nrc jr 1 mnumber mwhose msize misParted fnrc (hjr) (hjd)) si_X12_357 [0, 1] [] sm_0_1 fm_0_1 nd_0_1 rfl rfl (by decide) rfl rfl rfl rfl rfl (Nat.le_of_ble_eq_true rfl) rm_14_12_5 ⟨Nat.le_of_ble_eq_true rfl, Nat.le_of_ble_eq_true rfl⟩ gX12_dealt_0.2.2.2.2.2.1 (fun r5699 => Ktu3 fun jr15701 ip15702 gtrc5703 => ?_)
    intro H locs hr5699 hP hD hS
    try dsimp only at hr5699
    refine Kpdr (ws := [(h0, oX12 nw nk mhasKept nt mtaped nr mrowMany mroundOf mroundFrom mouts nm mfromHour mtoHour ns mfrom mto msort misFault mdeep mcoded mlines nl nc nF np ntr nb mbestCost nso nsi nit nsh nsf nss nrc (nI jr15701) 1 mnumber mwhose msize ip15702), (nrc, iA G 30 gtrc5703)]) hP hD (fun hP hD => ?_)
    obtain ⟨hr5699, w5704⟩ := hr5699
    refine toQ hQ0 ?_
    exact RI (v := r5699) hC hP hD hS [0, 1] (jr15701, ip15702, gtrc5703) rfl rfl (by decide) (⟨trivial, by omega⟩) rfl gX12_dealt_0.2.2.2.2.2.2
  · refine iV (wr := []) hC hK hl hP hD hS hA (m_from20 l G h0 xx nw nk mhasKept nt mtaped nr mrowMany mroundOf mroundFrom mouts nm mfromHour mtoHour ns mfrom mto msort misFault mdeep mcoded mlines nl nc nF np ntr nb mbestCost nso nsi nit nsh nsf nss nrc jr 2 mnumber mwhose msize misParted fnrc (hjr) (hjd)) si_X12_357 [0, 1] [] sm_0_1 fm_0_1 nd_0_1 rfl rfl (by decide) rfl rfl rfl rfl rfl (Nat.le_of_ble_eq_true rfl) rm_14_12_5 ⟨Nat.le_of_ble_eq_true rfl, Nat.le_of_ble_eq_true rfl⟩ gX12_dealt_0.2.2.2.2.2.1 (fun r5705 => Ktu3 fun jr15707 ip15708 gtrc5709 => ?_)
    intro H locs hr5705 hP hD hS
    try dsimp only at hr5705
    refine Kpdr (ws := [(h0, oX12 nw nk mhasKept nt mtaped nr mrowMany mroundOf mroundFrom mouts nm mfromHour mtoHour ns mfrom mto msort misFault mdeep mcoded mlines nl nc nF np ntr nb mbestCost nso nsi nit nsh nsf nss nrc (nI jr15707) 2 mnumber mwhose msize ip15708), (nrc, iA G 30 gtrc5709)]) hP hD (fun hP hD => ?_)
    obtain ⟨hr5705, w5710⟩ := hr5705
    refine toQ hQ0 ?_
    exact RI (v := r5705) hC hP hD hS [0, 1] (jr15707, ip15708, gtrc5709) rfl rfl (by decide) (⟨trivial, by omega⟩) rfl gX12_dealt_0.2.2.2.2.2.2
  · refine iV (wr := []) hC hK hl hP hD hS hA (m_from30 l G h0 xx nw nk mhasKept nt mtaped nr mrowMany mroundOf mroundFrom mouts nm mfromHour mtoHour ns mfrom mto msort misFault mdeep mcoded mlines nl nc nF np ntr nb mbestCost nso nsi nit nsh nsf nss nrc jr 3 mnumber mwhose msize misParted fnrc (hjr) (hjd)) si_X12_357 [0, 1] [] sm_0_1 fm_0_1 nd_0_1 rfl rfl (by decide) rfl rfl rfl rfl rfl (Nat.le_of_ble_eq_true rfl) rm_14_12_5 ⟨Nat.le_of_ble_eq_true rfl, Nat.le_of_ble_eq_true rfl⟩ gX12_dealt_0.2.2.2.2.2.1 (fun r5711 => Ktu3 fun jr15713 ip15714 gtrc5715 => ?_)
    intro H locs hr5711 hP hD hS
    try dsimp only at hr5711
    refine Kpdr (ws := [(h0, oX12 nw nk mhasKept nt mtaped nr mrowMany mroundOf mroundFrom mouts nm mfromHour mtoHour ns mfrom mto msort misFault mdeep mcoded mlines nl nc nF np ntr nb mbestCost nso nsi nit nsh nsf nss nrc (nI jr15713) 3 mnumber mwhose msize ip15714), (nrc, iA G 30 gtrc5715)]) hP hD (fun hP hD => ?_)
    obtain ⟨hr5711, w5716⟩ := hr5711
    refine toQ hQ0 ?_
    exact RI (v := r5711) hC hP hD hS [0, 1] (jr15713, ip15714, gtrc5715) rfl rfl (by decide) (⟨trivial, by omega⟩) rfl gX12_dealt_0.2.2.2.2.2.2
  · refine iV (wr := []) hC hK hl hP hD hS hA (m_from40 l G h0 xx nw nk mhasKept nt mtaped nr mrowMany mroundOf mroundFrom mouts nm mfromHour mtoHour ns mfrom mto msort misFault mdeep mcoded mlines nl nc nF np ntr nb mbestCost nso nsi nit nsh nsf nss nrc jr 4 mnumber mwhose msize misParted fnrc (hjr) (hjd)) si_X12_357 [0, 1] [] sm_0_1 fm_0_1 nd_0_1 rfl rfl (by decide) rfl rfl rfl rfl rfl (Nat.le_of_ble_eq_true rfl) rm_14_6_5 ⟨Nat.le_of_ble_eq_true rfl, Nat.le_of_ble_eq_true rfl⟩ gX12_dealt_0.2.2.2.2.2.1 (fun r5717 => Ktu3 fun jr15719 ip15720 gtrc5721 => ?_)
    intro H locs hr5717 hP hD hS
    try dsimp only at hr5717
    refine Kpdr (ws := [(h0, oX12 nw nk mhasKept nt mtaped nr mrowMany mroundOf mroundFrom mouts nm mfromHour mtoHour ns mfrom mto msort misFault mdeep mcoded mlines nl nc nF np ntr nb mbestCost nso nsi nit nsh nsf nss nrc (nI jr15719) 4 mnumber mwhose msize ip15720), (nrc, iA G 30 gtrc5721)]) hP hD (fun hP hD => ?_)
    obtain ⟨hr5717, w5722⟩ := hr5717
    refine toQ hQ0 ?_
    exact RI (v := r5717) hC hP hD hS [0, 1] (jr15719, ip15720, gtrc5721) rfl rfl (by decide) (⟨trivial, by omega⟩) rfl gX12_dealt_0.2.2.2.2.2.2
  · refine iV (wr := []) hC hK hl hP hD hS hA (m_from50 l G h0 xx nw nk mhasKept nt mtaped nr mrowMany mroundOf mroundFrom mouts nm mfromHour mtoHour ns mfrom mto msort misFault mdeep mcoded mlines nl nc nF np ntr nb mbestCost nso nsi nit nsh nsf nss nrc jr 5 mnumber mwhose msize misParted fnrc (hjr) (hjd)) si_X12_357 [0, 1] [] sm_0_1 fm_0_1 nd_0_1 rfl rfl (by decide) rfl rfl rfl rfl rfl (Nat.le_of_ble_eq_true rfl) rm_14_8_5 ⟨Nat.le_of_ble_eq_true rfl, Nat.le_of_ble_eq_true rfl⟩ gX12_dealt_0.2.2.2.2.2.1 (fun r5723 => Ktu3 fun jr15725 ip15726 gtrc5727 => ?_)
    intro H locs hr5723 hP hD hS
    try dsimp only at hr5723
    refine Kpdr (ws := [(h0, oX12 nw nk mhasKept nt mtaped nr mrowMany mroundOf mroundFrom mouts nm mfromHour mtoHour ns mfrom mto msort misFault mdeep mcoded mlines nl nc nF np ntr nb mbestCost nso nsi nit nsh nsf nss nrc (nI jr15725) 5 mnumber mwhose msize ip15726), (nrc, iA G 30 gtrc5727)]) hP hD (fun hP hD => ?_)
    obtain ⟨hr5723, w5728⟩ := hr5723
    refine toQ hQ0 ?_
    exact RI (v := r5723) hC hP hD hS [0, 1] (jr15725, ip15726, gtrc5727) rfl rfl (by decide) (⟨trivial, by omega⟩) rfl gX12_dealt_0.2.2.2.2.2.2
  · refine iV (wr := []) hC hK hl hP hD hS hA (m_from60 l G h0 xx nw nk mhasKept nt mtaped nr mrowMany mroundOf mroundFrom mouts nm mfromHour mtoHour ns mfrom mto msort misFault mdeep mcoded mlines nl nc nF np ntr nb mbestCost nso nsi nit nsh nsf nss nrc jr 6 mnumber mwhose msize misParted fnrc (hjr) (hjd)) si_X12_357 [0, 1] [] sm_0_1 fm_0_1 nd_0_1 rfl rfl (by decide) rfl rfl rfl rfl rfl (Nat.le_of_ble_eq_true rfl) rm_14_12_5 ⟨Nat.le_of_ble_eq_true rfl, Nat.le_of_ble_eq_true rfl⟩ gX12_dealt_0.2.2.2.2.2.1 (fun r5729 => Ktu3 fun jr15731 ip15732 gtrc5733 => ?_)
    intro H locs hr5729 hP hD hS
    try dsimp only at hr5729
    refine Kpdr (ws := [(h0, oX12 nw nk mhasKept nt mtaped nr mrowMany mroundOf mroundFrom mouts nm mfromHour mtoHour ns mfrom mto msort misFault mdeep mcoded mlines nl nc nF np ntr nb mbestCost nso nsi nit nsh nsf nss nrc (nI jr15731) 6 mnumber mwhose msize ip15732), (nrc, iA G 30 gtrc5733)]) hP hD (fun hP hD => ?_)
    obtain ⟨hr5729, w5734⟩ := hr5729
    refine toQ hQ0 ?_
    exact RI (v := r5729) hC hP hD hS [0, 1] (jr15731, ip15732, gtrc5733) rfl rfl (by decide) (⟨trivial, by omega⟩) rfl gX12_dealt_0.2.2.2.2.2.2
def K_m_body01 (l : Launch) (G : GG) (h0 : Nat) (xx : Int32) (nw : Nat) (nk : Nat) (mhasKept : Int32) (nt : Nat) (mtaped : Int32) (nr : Nat) (mrowMany : Int32) (mroundOf : Int32) (mroundFrom : Int32) (mouts : Int32) (nm : Nat) (mfromHour : Int32) (mtoHour : Int32) (ns : Nat) (mfrom : Int32) (mto : Int32) (msort : Int32) (misFault : Int32) (mdeep : Int32) (mcoded : Int32) (mlines : Int32) (nl : Nat) (nc : Nat) (nF : Nat) (np : Nat) (ntr : Nat) (nb : Nat) (mbestCost : Int32) (nso : Nat) (nsi : Nat) (nit : Nat) (nsh : Nat) (nsf : Nat) (nss : Nat) (nrc : Nat) (jr : Nat) (jd : Nat) (mnumber : Int32) (mwhose : Int32) (msize : Int32) (misParted : Int32) (fnrc : Nat → Int32) : Prop := MI l G yX12_body cX12_body 6 (some .int) 15 0 0 [.ref h0, .int 0, .int 1, .int xx] [(h0, oX12 nw nk mhasKept nt mtaped nr mrowMany mroundOf mroundFrom mouts nm mfromHour mtoHour ns mfrom mto msort misFault mdeep mcoded mlines nl nc nF np ntr nb mbestCost nso nsi nit nsh nsf nss nrc (nI jr) (nI jd) mnumber mwhose msize misParted), (nrc, iA G 30 fnrc)] (fun (r : Int32) (u : Nat × Int32 × (Nat → Int32)) => (True) ∧ (u.1 ≤ 30)) (fun u : Nat × Int32 × (Nat → Int32) => [(h0, oX12 nw nk mhasKept nt mtaped nr mrowMany mroundOf mroundFrom mouts nm mfromHour mtoHour ns mfrom mto msort misFault mdeep mcoded mlines nl nc nF np ntr nb mbestCost nso nsi nit nsh nsf nss nrc (nI u.1) (nI jd) mnumber mwhose msize u.2.1), (nrc, iA G 30 u.2.2)])
set_option maxHeartbeats 4000000 in
set_option maxRecDepth 100000 in
theorem m_body01 (l : Launch) (G : GG) (h0 : Nat) (xx : Int32) (nw : Nat) (nk : Nat) (mhasKept : Int32) (nt : Nat) (mtaped : Int32) (nr : Nat) (mrowMany : Int32) (mroundOf : Int32) (mroundFrom : Int32) (mouts : Int32) (nm : Nat) (mfromHour : Int32) (mtoHour : Int32) (ns : Nat) (mfrom : Int32) (mto : Int32) (msort : Int32) (misFault : Int32) (mdeep : Int32) (mcoded : Int32) (mlines : Int32) (nl : Nat) (nc : Nat) (nF : Nat) (np : Nat) (ntr : Nat) (nb : Nat) (mbestCost : Int32) (nso : Nat) (nsi : Nat) (nit : Nat) (nsh : Nat) (nsf : Nat) (nss : Nat) (nrc : Nat) (jr : Nat) (jd : Nat) (mnumber : Int32) (mwhose : Int32) (msize : Int32) (misParted : Int32) (fnrc : Nat → Int32) (hjr : jr ≤ 30) (hjd : jd < 7) : K_m_body01 l G h0 xx nw nk mhasKept nt mtaped nr mrowMany mroundOf mroundFrom mouts nm mfromHour mtoHour ns mfrom mto msort misFault mdeep mcoded mlines nl nc nF np ntr nb mbestCost nso nsi nit nsh nsf nss nrc jr jd mnumber mwhose msize misParted fnrc := by
  refine MI.start (by decide +kernel) (Nat.le_of_ble_eq_true rfl) ?_
  intro p e s m below meth c A ls hC hK hP hD hS hA hl
  refine absQ (fun Q0 hQ0 => ?_)
  have hl : lv_has ls 6 [(0, .ref h0), (1, .int 0), (2, .int 1), (3, .int xx)] := hl
  refine Kan8 hC (fun hx hb hr hml hB hown hlocks hnm => ?_)
  refine lv_iconst (v := 4) hx hb gX12_body_0.1 (by decide) ?_
  refine lv_iload_n hx hb gX12_body_0.2.1 rfl (lv_at1 hl) ?_
  refine lv_imul hx hb gX12_body_0.2.2.1 ?_
  refine eqi (x1 := 0) (by decide) ?_
  refine lv_iload_n hx hb gX12_body_0.2.2.2.1 rfl (lv_at2 hl) ?_
  refine lv_iadd hx hb gX12_body_0.2.2.2.2.1 ?_
  refine eqi (x1 := 1) (by decide) ?_
  refine lv_tableIn (tgt := 125) hx hb gX12_body_0.2.2.2.2.2.1 (by decide) (by decide) rfl (by decide) ?_
  refine lv_aload_n hx hb gX12_body_1.2.2.2.2.1 rfl (lv_at0 hl) ?_
  refine lv_bipush (v := 11) hx hb gX12_body_1.2.2.2.2.2.1 (by decide) ?_
  refine vV (wr := []) hC hK hl hP hD hS hA (m_began l G h0 11 nw nk mhasKept nt mtaped nr mrowMany mroundOf mroundFrom mouts nm mfromHour mtoHour ns mfrom mto msort misFault mdeep mcoded mlines nl nc nF np ntr nb mbestCost nso nsi nit nsh nsf nss nrc jr (nI jd) mnumber mwhose msize misParted fnrc (hjr)) si_X12_366 [0, 1] [] sm_0_1 fm_0_1 nd_0_1 rfl rfl (by decide) rfl rfl rfl rfl rfl (Nat.le_of_ble_eq_true rfl) rm_15_1_2 ⟨Nat.le_of_ble_eq_true rfl, Nat.le_of_ble_eq_true rfl⟩ gX12_body_1.2.2.2.2.2.2.1 (Ktu2 fun jr15737 gtrc5738 => ?_)
  intro H locs hr5735 hP hD hS
  try dsimp only at hr5735
  refine Kpdr (ws := [(h0, oX12 nw nk mhasKept nt mtaped nr mrowMany mroundOf mroundFrom mouts nm mfromHour mtoHour ns mfrom mto msort misFault mdeep mcoded mlines nl nc nF np ntr nb mbestCost nso nsi nit nsh nsf nss nrc (nI jr15737) (nI jd) mnumber mwhose msize misParted), (nrc, iA G 30 gtrc5738)]) hP hD (fun hP hD => ?_)
  have w5739 := hr5735
  refine lv_aload_n hx hb gX12_body_1.2.2.2.2.2.2.2.1 rfl (lv_at0 hl) ?_
  refine lv_iconst (v := 0) hx hb gX12_body_1.2.2.2.2.2.2.2.2.1 (by decide) ?_
  refine lv_iload_n hx hb gX12_body_1.2.2.2.2.2.2.2.2.2 rfl (lv_at3 hl) ?_
  refine iV (wr := []) hC hK hl hP hD hS hA (m_dealt0 l G h0 xx nw nk mhasKept nt mtaped nr mrowMany mroundOf mroundFrom mouts nm mfromHour mtoHour ns mfrom mto msort misFault mdeep mcoded mlines nl nc nF np ntr nb mbestCost nso nsi nit nsh nsf nss nrc jr15737 jd mnumber mwhose msize misParted gtrc5738 (w5739) (hjd)) si_X12_372 [0, 1] [] sm_0_1 fm_0_1 nd_0_1 rfl rfl (by decide) rfl rfl rfl rfl rfl (Nat.le_of_ble_eq_true rfl) rm_15_14_3 ⟨Nat.le_of_ble_eq_true rfl, Nat.le_of_ble_eq_true rfl⟩ gX12_body_2.1 (fun r5740 => Ktu3 fun jr15742 ip15743 gtrc5744 => ?_)
  intro H locs hr5740 hP hD hS
  try dsimp only at hr5740
  refine Kpdr (ws := [(h0, oX12 nw nk mhasKept nt mtaped nr mrowMany mroundOf mroundFrom mouts nm mfromHour mtoHour ns mfrom mto msort misFault mdeep mcoded mlines nl nc nF np ntr nb mbestCost nso nsi nit nsh nsf nss nrc (nI jr15742) (nI jd) mnumber mwhose msize ip15743), (nrc, iA G 30 gtrc5744)]) hP hD (fun hP hD => ?_)
  obtain ⟨hr5740, w5745⟩ := hr5740
  refine lv_iconst (v := 2) hx hb gX12_body_2.2.1 (by decide) ?_
  refine lv_imul hx hb gX12_body_2.2.2.1 ?_
  refine toQ hQ0 ?_
  exact RI (v := r5740 * 2) hC hP hD hS [0, 1] (jr15742, ip15743, gtrc5744) rfl rfl (by decide) (⟨trivial, by omega⟩) rfl gX12_body_2.2.2.2.1
def K_m_from01 (l : Launch) (G : GG) (h0 : Nat) (xx : Int32) (nw : Nat) (nk : Nat) (mhasKept : Int32) (nt : Nat) (mtaped : Int32) (nr : Nat) (mrowMany : Int32) (mroundOf : Int32) (mroundFrom : Int32) (mouts : Int32) (nm : Nat) (mfromHour : Int32) (mtoHour : Int32) (ns : Nat) (mfrom : Int32) (mto : Int32) (msort : Int32) (misFault : Int32) (mdeep : Int32) (mcoded : Int32) (mlines : Int32) (nl : Nat) (nc : Nat) (nF : Nat) (np : Nat) (ntr : Nat) (nb : Nat) (mbestCost : Int32) (nso : Nat) (nsi : Nat) (nit : Nat) (nsh : Nat) (nsf : Nat) (nss : Nat) (nrc : Nat) (jr : Nat) (jd : Nat) (mnumber : Int32) (mwhose : Int32) (msize : Int32) (misParted : Int32) (fnrc : Nat → Int32) : Prop := MI l G yX12_bodyFrom cX12_bodyFrom 5 (some .int) 16 0 0 [.ref h0, .int 0, .int 1, .int xx] [(h0, oX12 nw nk mhasKept nt mtaped nr mrowMany mroundOf mroundFrom mouts nm mfromHour mtoHour ns mfrom mto msort misFault mdeep mcoded mlines nl nc nF np ntr nb mbestCost nso nsi nit nsh nsf nss nrc (nI jr) (nI jd) mnumber mwhose msize misParted), (nrc, iA G 30 fnrc)] (fun (r : Int32) (u : Nat × Int32 × (Nat → Int32)) => (True) ∧ (u.1 ≤ 30)) (fun u : Nat × Int32 × (Nat → Int32) => [(h0, oX12 nw nk mhasKept nt mtaped nr mrowMany mroundOf mroundFrom mouts nm mfromHour mtoHour ns mfrom mto msort misFault mdeep mcoded mlines nl nc nF np ntr nb mbestCost nso nsi nit nsh nsf nss nrc (nI u.1) (nI jd) mnumber mwhose msize u.2.1), (nrc, iA G 30 u.2.2)])
set_option maxHeartbeats 4000000 in
set_option maxRecDepth 100000 in
theorem m_from01 (l : Launch) (G : GG) (h0 : Nat) (xx : Int32) (nw : Nat) (nk : Nat) (mhasKept : Int32) (nt : Nat) (mtaped : Int32) (nr : Nat) (mrowMany : Int32) (mroundOf : Int32) (mroundFrom : Int32) (mouts : Int32) (nm : Nat) (mfromHour : Int32) (mtoHour : Int32) (ns : Nat) (mfrom : Int32) (mto : Int32) (msort : Int32) (misFault : Int32) (mdeep : Int32) (mcoded : Int32) (mlines : Int32) (nl : Nat) (nc : Nat) (nF : Nat) (np : Nat) (ntr : Nat) (nb : Nat) (mbestCost : Int32) (nso : Nat) (nsi : Nat) (nit : Nat) (nsh : Nat) (nsf : Nat) (nss : Nat) (nrc : Nat) (jr : Nat) (jd : Nat) (mnumber : Int32) (mwhose : Int32) (msize : Int32) (misParted : Int32) (fnrc : Nat → Int32) (hjr : jr ≤ 30) (hjd : jd < 7) : K_m_from01 l G h0 xx nw nk mhasKept nt mtaped nr mrowMany mroundOf mroundFrom mouts nm mfromHour mtoHour ns mfrom mto msort misFault mdeep mcoded mlines nl nc nF np ntr nb mbestCost nso nsi nit nsh nsf nss nrc jr jd mnumber mwhose msize misParted fnrc := by
  refine MI.start (by decide +kernel) (Nat.le_of_ble_eq_true rfl) ?_
  intro p e s m below meth c A ls hC hK hP hD hS hA hl
  refine absQ (fun Q0 hQ0 => ?_)
  have hl : lv_has ls 5 [(0, .ref h0), (1, .int 0), (2, .int 1), (3, .int xx)] := hl
  refine Kan8 hC (fun hx hb hr hml hB hown hlocks hnm => ?_)
  refine lv_iload_n hx hb gX12_bodyFrom_0.1 rfl (lv_at1 hl) ?_
  refine lv_istore (lv' := [(4, .int 0), (0, .ref h0), (1, .int 0), (2, .int 1), (3, .int xx)]) hx hb gX12_bodyFrom_0.2.1 hl (by decide) rfl (fun ls hl => ?_)
  refine lv_iload hx hb gX12_bodyFrom_0.2.2.1 (lv_at0 hl) ?_
  refine lv_iload_n hx hb gX12_bodyFrom_0.2.2.2.1 rfl (lv_at3 hl) ?_
  refine pS hC hK hl (m_hasOwn01 l G) si_X12_360 rfl rfl (Nat.le_of_ble_eq_true rfl) rm_16_1_2 ⟨by first | exact Nat.le_of_ble_eq_true rfl | exact Nat.zero_le _, by first | exact Nat.le_of_ble_eq_true rfl | exact Nat.zero_le _⟩ gX12_bodyFrom_0.2.2.2.2.1 (Keqr ?_)
  refine lv_if_ne (tgt := 22) hx hb gX12_bodyFrom_0.2.2.2.2.2.1 (by decide) (fun _ => ?_) (fun c9 => absurd c9 (by decide))
  refine lv_aload_n hx hb gX12_bodyFrom_1.1 rfl (lv_at1 hl) ?_
  refine lv_iload hx hb gX12_bodyFrom_1.2.1 (lv_at0 hl) ?_
  refine lv_iload_n hx hb gX12_bodyFrom_1.2.2.1 rfl (lv_at3 hl) ?_
  refine lv_iload_n hx hb gX12_bodyFrom_1.2.2.2.1 rfl (lv_at4 hl) ?_
  refine iV (wr := []) hC hK hl hP hD hS hA (m_body01 l G h0 xx nw nk mhasKept nt mtaped nr mrowMany mroundOf mroundFrom mouts nm mfromHour mtoHour ns mfrom mto msort misFault mdeep mcoded mlines nl nc nF np ntr nb mbestCost nso nsi nit nsh nsf nss nrc jr jd mnumber mwhose msize misParted fnrc (hjr) (hjd)) si_X12_363 [0, 1] [] sm_0_1 fm_0_1 nd_0_1 rfl rfl (by decide) rfl rfl rfl rfl rfl (Nat.le_of_ble_eq_true rfl) rm_16_15_6 ⟨Nat.le_of_ble_eq_true rfl, Nat.le_of_ble_eq_true rfl⟩ gX12_bodyFrom_1.2.2.2.2.1 (fun r5748 => Ktu3 fun jr15750 ip15751 gtrc5752 => ?_)
  intro H locs hr5748 hP hD hS
  try dsimp only at hr5748
  refine Kpdr (ws := [(h0, oX12 nw nk mhasKept nt mtaped nr mrowMany mroundOf mroundFrom mouts nm mfromHour mtoHour ns mfrom mto msort misFault mdeep mcoded mlines nl nc nF np ntr nb mbestCost nso nsi nit nsh nsf nss nrc (nI jr15750) (nI jd) mnumber mwhose msize ip15751), (nrc, iA G 30 gtrc5752)]) hP hD (fun hP hD => ?_)
  obtain ⟨hr5748, w5753⟩ := hr5748
  refine toQ hQ0 ?_
  exact RI (v := r5748) hC hP hD hS [0, 1] (jr15750, ip15751, gtrc5752) rfl rfl (by decide) (⟨trivial, by omega⟩) rfl gX12_bodyFrom_1.2.2.2.2.2
def K_m_body11 (l : Launch) (G : GG) (h0 : Nat) (xx : Int32) (nw : Nat) (nk : Nat) (mhasKept : Int32) (nt : Nat) (mtaped : Int32) (nr : Nat) (mrowMany : Int32) (mroundOf : Int32) (mroundFrom : Int32) (mouts : Int32) (nm : Nat) (mfromHour : Int32) (mtoHour : Int32) (ns : Nat) (mfrom : Int32) (mto : Int32) (msort : Int32) (misFault : Int32) (mdeep : Int32) (mcoded : Int32) (mlines : Int32) (nl : Nat) (nc : Nat) (nF : Nat) (np : Nat) (ntr : Nat) (nb : Nat) (mbestCost : Int32) (nso : Nat) (nsi : Nat) (nit : Nat) (nsh : Nat) (nsf : Nat) (nss : Nat) (nrc : Nat) (jr : Nat) (jd : Nat) (mnumber : Int32) (mwhose : Int32) (msize : Int32) (misParted : Int32) (fnrc : Nat → Int32) : Prop := MI l G yX12_body cX12_body 6 (some .int) 17 0 0 [.ref h0, .int 1, .int 1, .int xx] [(h0, oX12 nw nk mhasKept nt mtaped nr mrowMany mroundOf mroundFrom mouts nm mfromHour mtoHour ns mfrom mto msort misFault mdeep mcoded mlines nl nc nF np ntr nb mbestCost nso nsi nit nsh nsf nss nrc (nI jr) (nI jd) mnumber mwhose msize misParted), (nrc, iA G 30 fnrc)] (fun (r : Int32) (u : Nat × Int32 × (Nat → Int32)) => (True) ∧ (u.1 ≤ 30)) (fun u : Nat × Int32 × (Nat → Int32) => [(h0, oX12 nw nk mhasKept nt mtaped nr mrowMany mroundOf mroundFrom mouts nm mfromHour mtoHour ns mfrom mto msort misFault mdeep mcoded mlines nl nc nF np ntr nb mbestCost nso nsi nit nsh nsf nss nrc (nI u.1) (nI jd) mnumber mwhose msize u.2.1), (nrc, iA G 30 u.2.2)])
set_option maxHeartbeats 4000000 in
set_option maxRecDepth 100000 in
theorem m_body11 (l : Launch) (G : GG) (h0 : Nat) (xx : Int32) (nw : Nat) (nk : Nat) (mhasKept : Int32) (nt : Nat) (mtaped : Int32) (nr : Nat) (mrowMany : Int32) (mroundOf : Int32) (mroundFrom : Int32) (mouts : Int32) (nm : Nat) (mfromHour : Int32) (mtoHour : Int32) (ns : Nat) (mfrom : Int32) (mto : Int32) (msort : Int32) (misFault : Int32) (mdeep : Int32) (mcoded : Int32) (mlines : Int32) (nl : Nat) (nc : Nat) (nF : Nat) (np : Nat) (ntr : Nat) (nb : Nat) (mbestCost : Int32) (nso : Nat) (nsi : Nat) (nit : Nat) (nsh : Nat) (nsf : Nat) (nss : Nat) (nrc : Nat) (jr : Nat) (jd : Nat) (mnumber : Int32) (mwhose : Int32) (msize : Int32) (misParted : Int32) (fnrc : Nat → Int32) (hjr : jr ≤ 30) (hjd : jd < 7) : K_m_body11 l G h0 xx nw nk mhasKept nt mtaped nr mrowMany mroundOf mroundFrom mouts nm mfromHour mtoHour ns mfrom mto msort misFault mdeep mcoded mlines nl nc nF np ntr nb mbestCost nso nsi nit nsh nsf nss nrc jr jd mnumber mwhose msize misParted fnrc := by
  refine MI.start (by decide +kernel) (Nat.le_of_ble_eq_true rfl) ?_
  intro p e s m below meth c A ls hC hK hP hD hS hA hl
  refine absQ (fun Q0 hQ0 => ?_)
  have hl : lv_has ls 6 [(0, .ref h0), (1, .int 1), (2, .int 1), (3, .int xx)] := hl
  refine Kan8 hC (fun hx hb hr hml hB hown hlocks hnm => ?_)
  refine lv_iconst (v := 4) hx hb gX12_body_0.1 (by decide) ?_
  refine lv_iload_n hx hb gX12_body_0.2.1 rfl (lv_at1 hl) ?_
  refine lv_imul hx hb gX12_body_0.2.2.1 ?_
  refine eqi (x1 := 4) (by decide) ?_
  refine lv_iload_n hx hb gX12_body_0.2.2.2.1 rfl (lv_at2 hl) ?_
  refine lv_iadd hx hb gX12_body_0.2.2.2.2.1 ?_
  refine eqi (x1 := 5) (by decide) ?_
  refine lv_tableIn (tgt := 207) hx hb gX12_body_0.2.2.2.2.2.1 (by decide) (by decide) rfl (by decide) ?_
  refine lv_aload_n hx hb gX12_body_6.2.1 rfl (lv_at0 hl) ?_
  refine lv_bipush (v := 20) hx hb gX12_body_6.2.2.1 (by decide) ?_
  refine vV (wr := []) hC hK hl hP hD hS hA (m_began l G h0 20 nw nk mhasKept nt mtaped nr mrowMany mroundOf mroundFrom mouts nm mfromHour mtoHour ns mfrom mto msort misFault mdeep mcoded mlines nl nc nF np ntr nb mbestCost nso nsi nit nsh nsf nss nrc jr (nI jd) mnumber mwhose msize misParted fnrc (hjr)) si_X12_366 [0, 1] [] sm_0_1 fm_0_1 nd_0_1 rfl rfl (by decide) rfl rfl rfl rfl rfl (Nat.le_of_ble_eq_true rfl) rm_17_1_2 ⟨Nat.le_of_ble_eq_true rfl, Nat.le_of_ble_eq_true rfl⟩ gX12_body_6.2.2.2.1 (Ktu2 fun jr15756 gtrc5757 => ?_)
  intro H locs hr5754 hP hD hS
  try dsimp only at hr5754
  refine Kpdr (ws := [(h0, oX12 nw nk mhasKept nt mtaped nr mrowMany mroundOf mroundFrom mouts nm mfromHour mtoHour ns mfrom mto msort misFault mdeep mcoded mlines nl nc nF np ntr nb mbestCost nso nsi nit nsh nsf nss nrc (nI jr15756) (nI jd) mnumber mwhose msize misParted), (nrc, iA G 30 gtrc5757)]) hP hD (fun hP hD => ?_)
  have w5758 := hr5754
  refine lv_aload_n hx hb gX12_body_6.2.2.2.2.1 rfl (lv_at0 hl) ?_
  refine lv_iconst (v := 0) hx hb gX12_body_6.2.2.2.2.2.1 (by decide) ?_
  refine lv_iconst (v := 1) hx hb gX12_body_6.2.2.2.2.2.2.1 (by decide) ?_
  refine lv_iload_n hx hb gX12_body_6.2.2.2.2.2.2.2.1 rfl (lv_at3 hl) ?_
  refine iV (wr := []) hC hK hl hP hD hS hA (m_from01 l G h0 xx nw nk mhasKept nt mtaped nr mrowMany mroundOf mroundFrom mouts nm mfromHour mtoHour ns mfrom mto msort misFault mdeep mcoded mlines nl nc nF np ntr nb mbestCost nso nsi nit nsh nsf nss nrc jr15756 jd mnumber mwhose msize misParted gtrc5757 (w5758) (hjd)) si_X12_357 [0, 1] [] sm_0_1 fm_0_1 nd_0_1 rfl rfl (by decide) rfl rfl rfl rfl rfl (Nat.le_of_ble_eq_true rfl) rm_17_16_5 ⟨Nat.le_of_ble_eq_true rfl, Nat.le_of_ble_eq_true rfl⟩ gX12_body_6.2.2.2.2.2.2.2.2.1 (fun r5759 => Ktu3 fun jr15761 ip15762 gtrc5763 => ?_)
  intro H locs hr5759 hP hD hS
  try dsimp only at hr5759
  refine Kpdr (ws := [(h0, oX12 nw nk mhasKept nt mtaped nr mrowMany mroundOf mroundFrom mouts nm mfromHour mtoHour ns mfrom mto msort misFault mdeep mcoded mlines nl nc nF np ntr nb mbestCost nso nsi nit nsh nsf nss nrc (nI jr15761) (nI jd) mnumber mwhose msize ip15762), (nrc, iA G 30 gtrc5763)]) hP hD (fun hP hD => ?_)
  obtain ⟨hr5759, w5764⟩ := hr5759
  refine lv_aload_n hx hb gX12_body_6.2.2.2.2.2.2.2.2.2 rfl (lv_at0 hl) ?_
  refine gf_X12_378 hC rfl hK hP 0 rfl rfl gX12_body_7.1 ?_
  refine lv_ixor hx hb gX12_body_7.2.1 ?_
  refine toQ hQ0 ?_
  exact RI (v := r5759 ^^^ mnumber) hC hP hD hS [0, 1] (jr15761, ip15762, gtrc5763) rfl rfl (by decide) (⟨trivial, by omega⟩) rfl gX12_body_7.2.2.1
def K_m_from11 (l : Launch) (G : GG) (h0 : Nat) (xx : Int32) (nw : Nat) (nk : Nat) (mhasKept : Int32) (nt : Nat) (mtaped : Int32) (nr : Nat) (mrowMany : Int32) (mroundOf : Int32) (mroundFrom : Int32) (mouts : Int32) (nm : Nat) (mfromHour : Int32) (mtoHour : Int32) (ns : Nat) (mfrom : Int32) (mto : Int32) (msort : Int32) (misFault : Int32) (mdeep : Int32) (mcoded : Int32) (mlines : Int32) (nl : Nat) (nc : Nat) (nF : Nat) (np : Nat) (ntr : Nat) (nb : Nat) (mbestCost : Int32) (nso : Nat) (nsi : Nat) (nit : Nat) (nsh : Nat) (nsf : Nat) (nss : Nat) (nrc : Nat) (jr : Nat) (jd : Nat) (mnumber : Int32) (mwhose : Int32) (msize : Int32) (misParted : Int32) (fnrc : Nat → Int32) : Prop := MI l G yX12_bodyFrom cX12_bodyFrom 5 (some .int) 18 0 0 [.ref h0, .int 1, .int 1, .int xx] [(h0, oX12 nw nk mhasKept nt mtaped nr mrowMany mroundOf mroundFrom mouts nm mfromHour mtoHour ns mfrom mto msort misFault mdeep mcoded mlines nl nc nF np ntr nb mbestCost nso nsi nit nsh nsf nss nrc (nI jr) (nI jd) mnumber mwhose msize misParted), (nrc, iA G 30 fnrc)] (fun (r : Int32) (u : Nat × Int32 × (Nat → Int32)) => (True) ∧ (u.1 ≤ 30)) (fun u : Nat × Int32 × (Nat → Int32) => [(h0, oX12 nw nk mhasKept nt mtaped nr mrowMany mroundOf mroundFrom mouts nm mfromHour mtoHour ns mfrom mto msort misFault mdeep mcoded mlines nl nc nF np ntr nb mbestCost nso nsi nit nsh nsf nss nrc (nI u.1) (nI jd) mnumber mwhose msize u.2.1), (nrc, iA G 30 u.2.2)])
set_option maxHeartbeats 4000000 in
set_option maxRecDepth 100000 in
theorem m_from11 (l : Launch) (G : GG) (h0 : Nat) (xx : Int32) (nw : Nat) (nk : Nat) (mhasKept : Int32) (nt : Nat) (mtaped : Int32) (nr : Nat) (mrowMany : Int32) (mroundOf : Int32) (mroundFrom : Int32) (mouts : Int32) (nm : Nat) (mfromHour : Int32) (mtoHour : Int32) (ns : Nat) (mfrom : Int32) (mto : Int32) (msort : Int32) (misFault : Int32) (mdeep : Int32) (mcoded : Int32) (mlines : Int32) (nl : Nat) (nc : Nat) (nF : Nat) (np : Nat) (ntr : Nat) (nb : Nat) (mbestCost : Int32) (nso : Nat) (nsi : Nat) (nit : Nat) (nsh : Nat) (nsf : Nat) (nss : Nat) (nrc : Nat) (jr : Nat) (jd : Nat) (mnumber : Int32) (mwhose : Int32) (msize : Int32) (misParted : Int32) (fnrc : Nat → Int32) (hjr : jr ≤ 30) (hjd : jd < 7) : K_m_from11 l G h0 xx nw nk mhasKept nt mtaped nr mrowMany mroundOf mroundFrom mouts nm mfromHour mtoHour ns mfrom mto msort misFault mdeep mcoded mlines nl nc nF np ntr nb mbestCost nso nsi nit nsh nsf nss nrc jr jd mnumber mwhose msize misParted fnrc := by
  refine MI.start (by decide +kernel) (Nat.le_of_ble_eq_true rfl) ?_
  intro p e s m below meth c A ls hC hK hP hD hS hA hl
  refine absQ (fun Q0 hQ0 => ?_)
  have hl : lv_has ls 5 [(0, .ref h0), (1, .int 1), (2, .int 1), (3, .int xx)] := hl
  refine Kan8 hC (fun hx hb hr hml hB hown hlocks hnm => ?_)
  refine lv_iload_n hx hb gX12_bodyFrom_0.1 rfl (lv_at1 hl) ?_
  refine lv_istore (lv' := [(4, .int 1), (0, .ref h0), (1, .int 1), (2, .int 1), (3, .int xx)]) hx hb gX12_bodyFrom_0.2.1 hl (by decide) rfl (fun ls hl => ?_)
  refine lv_iload hx hb gX12_bodyFrom_0.2.2.1 (lv_at0 hl) ?_
  refine lv_iload_n hx hb gX12_bodyFrom_0.2.2.2.1 rfl (lv_at3 hl) ?_
  refine pS hC hK hl (m_hasOwn11 l G) si_X12_360 rfl rfl (Nat.le_of_ble_eq_true rfl) rm_18_1_2 ⟨by first | exact Nat.le_of_ble_eq_true rfl | exact Nat.zero_le _, by first | exact Nat.le_of_ble_eq_true rfl | exact Nat.zero_le _⟩ gX12_bodyFrom_0.2.2.2.2.1 (Keqr ?_)
  refine lv_if_ne (tgt := 22) hx hb gX12_bodyFrom_0.2.2.2.2.2.1 (by decide) (fun _ => ?_) (fun c9 => absurd c9 (by decide))
  refine lv_aload_n hx hb gX12_bodyFrom_1.1 rfl (lv_at1 hl) ?_
  refine lv_iload hx hb gX12_bodyFrom_1.2.1 (lv_at0 hl) ?_
  refine lv_iload_n hx hb gX12_bodyFrom_1.2.2.1 rfl (lv_at3 hl) ?_
  refine lv_iload_n hx hb gX12_bodyFrom_1.2.2.2.1 rfl (lv_at4 hl) ?_
  refine iV (wr := []) hC hK hl hP hD hS hA (m_body11 l G h0 xx nw nk mhasKept nt mtaped nr mrowMany mroundOf mroundFrom mouts nm mfromHour mtoHour ns mfrom mto msort misFault mdeep mcoded mlines nl nc nF np ntr nb mbestCost nso nsi nit nsh nsf nss nrc jr jd mnumber mwhose msize misParted fnrc (hjr) (hjd)) si_X12_363 [0, 1] [] sm_0_1 fm_0_1 nd_0_1 rfl rfl (by decide) rfl rfl rfl rfl rfl (Nat.le_of_ble_eq_true rfl) rm_18_17_6 ⟨Nat.le_of_ble_eq_true rfl, Nat.le_of_ble_eq_true rfl⟩ gX12_bodyFrom_1.2.2.2.2.1 (fun r5767 => Ktu3 fun jr15769 ip15770 gtrc5771 => ?_)
  intro H locs hr5767 hP hD hS
  try dsimp only at hr5767
  refine Kpdr (ws := [(h0, oX12 nw nk mhasKept nt mtaped nr mrowMany mroundOf mroundFrom mouts nm mfromHour mtoHour ns mfrom mto msort misFault mdeep mcoded mlines nl nc nF np ntr nb mbestCost nso nsi nit nsh nsf nss nrc (nI jr15769) (nI jd) mnumber mwhose msize ip15770), (nrc, iA G 30 gtrc5771)]) hP hD (fun hP hD => ?_)
  obtain ⟨hr5767, w5772⟩ := hr5767
  refine toQ hQ0 ?_
  exact RI (v := r5767) hC hP hD hS [0, 1] (jr15769, ip15770, gtrc5771) rfl rfl (by decide) (⟨trivial, by omega⟩) rfl gX12_bodyFrom_1.2.2.2.2.2
def K_m_body31 (l : Launch) (G : GG) (h0 : Nat) (xx : Int32) (nw : Nat) (nk : Nat) (mhasKept : Int32) (nt : Nat) (mtaped : Int32) (nr : Nat) (mrowMany : Int32) (mroundOf : Int32) (mroundFrom : Int32) (mouts : Int32) (nm : Nat) (mfromHour : Int32) (mtoHour : Int32) (ns : Nat) (mfrom : Int32) (mto : Int32) (msort : Int32) (misFault : Int32) (mdeep : Int32) (mcoded : Int32) (mlines : Int32) (nl : Nat) (nc : Nat) (nF : Nat) (np : Nat) (ntr : Nat) (nb : Nat) (mbestCost : Int32) (nso : Nat) (nsi : Nat) (nit : Nat) (nsh : Nat) (nsf : Nat) (nss : Nat) (nrc : Nat) (jr : Nat) (jd : Nat) (mnumber : Int32) (mwhose : Int32) (msize : Int32) (misParted : Int32) (fnrc : Nat → Int32) : Prop := MI l G yX12_body cX12_body 6 (some .int) 19 0 0 [.ref h0, .int 3, .int 1, .int xx] [(h0, oX12 nw nk mhasKept nt mtaped nr mrowMany mroundOf mroundFrom mouts nm mfromHour mtoHour ns mfrom mto msort misFault mdeep mcoded mlines nl nc nF np ntr nb mbestCost nso nsi nit nsh nsf nss nrc (nI jr) (nI jd) mnumber mwhose msize misParted), (nrc, iA G 30 fnrc)] (fun (r : Int32) (u : Nat × Int32 × (Nat → Int32)) => (True) ∧ (u.1 ≤ 30)) (fun u : Nat × Int32 × (Nat → Int32) => [(h0, oX12 nw nk mhasKept nt mtaped nr mrowMany mroundOf mroundFrom mouts nm mfromHour mtoHour ns mfrom mto msort misFault mdeep mcoded mlines nl nc nF np ntr nb mbestCost nso nsi nit nsh nsf nss nrc (nI u.1) (nI jd) mnumber mwhose msize u.2.1), (nrc, iA G 30 u.2.2)])
set_option maxHeartbeats 4000000 in
set_option maxRecDepth 100000 in
theorem m_body31 (l : Launch) (G : GG) (h0 : Nat) (xx : Int32) (nw : Nat) (nk : Nat) (mhasKept : Int32) (nt : Nat) (mtaped : Int32) (nr : Nat) (mrowMany : Int32) (mroundOf : Int32) (mroundFrom : Int32) (mouts : Int32) (nm : Nat) (mfromHour : Int32) (mtoHour : Int32) (ns : Nat) (mfrom : Int32) (mto : Int32) (msort : Int32) (misFault : Int32) (mdeep : Int32) (mcoded : Int32) (mlines : Int32) (nl : Nat) (nc : Nat) (nF : Nat) (np : Nat) (ntr : Nat) (nb : Nat) (mbestCost : Int32) (nso : Nat) (nsi : Nat) (nit : Nat) (nsh : Nat) (nsf : Nat) (nss : Nat) (nrc : Nat) (jr : Nat) (jd : Nat) (mnumber : Int32) (mwhose : Int32) (msize : Int32) (misParted : Int32) (fnrc : Nat → Int32) (hjr : jr ≤ 30) (hjd : jd < 7) : K_m_body31 l G h0 xx nw nk mhasKept nt mtaped nr mrowMany mroundOf mroundFrom mouts nm mfromHour mtoHour ns mfrom mto msort misFault mdeep mcoded mlines nl nc nF np ntr nb mbestCost nso nsi nit nsh nsf nss nrc jr jd mnumber mwhose msize misParted fnrc := by
  refine MI.start (by decide +kernel) (Nat.le_of_ble_eq_true rfl) ?_
  intro p e s m below meth c A ls hC hK hP hD hS hA hl
  refine absQ (fun Q0 hQ0 => ?_)
  have hl : lv_has ls 6 [(0, .ref h0), (1, .int 3), (2, .int 1), (3, .int xx)] := hl
  refine Kan8 hC (fun hx hb hr hml hB hown hlocks hnm => ?_)
  refine lv_iconst (v := 4) hx hb gX12_body_0.1 (by decide) ?_
  refine lv_iload_n hx hb gX12_body_0.2.1 rfl (lv_at1 hl) ?_
  refine lv_imul hx hb gX12_body_0.2.2.1 ?_
  refine eqi (x1 := 12) (by decide) ?_
  refine lv_iload_n hx hb gX12_body_0.2.2.2.1 rfl (lv_at2 hl) ?_
  refine lv_iadd hx hb gX12_body_0.2.2.2.2.1 ?_
  refine eqi (x1 := 13) (by decide) ?_
  refine lv_tableIn (tgt := 242) hx hb gX12_body_0.2.2.2.2.2.1 (by decide) (by decide) rfl (by decide) ?_
  refine lv_aload_n hx hb gX12_body_8.2.2.2.2.1 rfl (lv_at0 hl) ?_
  refine lv_bipush (v := 40) hx hb gX12_body_8.2.2.2.2.2.1 (by decide) ?_
  refine vV (wr := []) hC hK hl hP hD hS hA (m_began l G h0 40 nw nk mhasKept nt mtaped nr mrowMany mroundOf mroundFrom mouts nm mfromHour mtoHour ns mfrom mto msort misFault mdeep mcoded mlines nl nc nF np ntr nb mbestCost nso nsi nit nsh nsf nss nrc jr (nI jd) mnumber mwhose msize misParted fnrc (hjr)) si_X12_366 [0, 1] [] sm_0_1 fm_0_1 nd_0_1 rfl rfl (by decide) rfl rfl rfl rfl rfl (Nat.le_of_ble_eq_true rfl) rm_19_1_2 ⟨Nat.le_of_ble_eq_true rfl, Nat.le_of_ble_eq_true rfl⟩ gX12_body_8.2.2.2.2.2.2.1 (Ktu2 fun jr15775 gtrc5776 => ?_)
  intro H locs hr5773 hP hD hS
  try dsimp only at hr5773
  refine Kpdr (ws := [(h0, oX12 nw nk mhasKept nt mtaped nr mrowMany mroundOf mroundFrom mouts nm mfromHour mtoHour ns mfrom mto msort misFault mdeep mcoded mlines nl nc nF np ntr nb mbestCost nso nsi nit nsh nsf nss nrc (nI jr15775) (nI jd) mnumber mwhose msize misParted), (nrc, iA G 30 gtrc5776)]) hP hD (fun hP hD => ?_)
  have w5777 := hr5773
  refine lv_iconst (v := 0) hx hb gX12_body_8.2.2.2.2.2.2.2.1 (by decide) ?_
  refine lv_aload_n hx hb gX12_body_8.2.2.2.2.2.2.2.2.1 rfl (lv_at0 hl) ?_
  refine lv_iconst (v := 1) hx hb gX12_body_8.2.2.2.2.2.2.2.2.2 (by decide) ?_
  refine lv_iconst (v := 1) hx hb gX12_body_9.1 (by decide) ?_
  refine lv_iload_n hx hb gX12_body_9.2.1 rfl (lv_at3 hl) ?_
  refine iV (wr := []) hC hK hl hP hD hS hA (m_from11 l G h0 xx nw nk mhasKept nt mtaped nr mrowMany mroundOf mroundFrom mouts nm mfromHour mtoHour ns mfrom mto msort misFault mdeep mcoded mlines nl nc nF np ntr nb mbestCost nso nsi nit nsh nsf nss nrc jr15775 jd mnumber mwhose msize misParted gtrc5776 (w5777) (hjd)) si_X12_357 [0, 1] [] sm_0_1 fm_0_1 nd_0_1 rfl rfl (by decide) rfl rfl rfl rfl rfl (Nat.le_of_ble_eq_true rfl) rm_19_18_5 ⟨Nat.le_of_ble_eq_true rfl, Nat.le_of_ble_eq_true rfl⟩ gX12_body_9.2.2.1 (fun r5778 => Ktu3 fun jr15780 ip15781 gtrc5782 => ?_)
  intro H locs hr5778 hP hD hS
  try dsimp only at hr5778
  refine Kpdr (ws := [(h0, oX12 nw nk mhasKept nt mtaped nr mrowMany mroundOf mroundFrom mouts nm mfromHour mtoHour ns mfrom mto msort misFault mdeep mcoded mlines nl nc nF np ntr nb mbestCost nso nsi nit nsh nsf nss nrc (nI jr15780) (nI jd) mnumber mwhose msize ip15781), (nrc, iA G 30 gtrc5782)]) hP hD (fun hP hD => ?_)
  obtain ⟨hr5778, w5783⟩ := hr5778
  refine lv_isub hx hb gX12_body_9.2.2.2.1 ?_
  refine toQ hQ0 ?_
  exact RI (v := 0 - r5778) hC hP hD hS [0, 1] (jr15780, ip15781, gtrc5782) rfl rfl (by decide) (⟨trivial, by omega⟩) rfl gX12_body_9.2.2.2.2.1
def K_m_from31 (l : Launch) (G : GG) (h0 : Nat) (xx : Int32) (nw : Nat) (nk : Nat) (mhasKept : Int32) (nt : Nat) (mtaped : Int32) (nr : Nat) (mrowMany : Int32) (mroundOf : Int32) (mroundFrom : Int32) (mouts : Int32) (nm : Nat) (mfromHour : Int32) (mtoHour : Int32) (ns : Nat) (mfrom : Int32) (mto : Int32) (msort : Int32) (misFault : Int32) (mdeep : Int32) (mcoded : Int32) (mlines : Int32) (nl : Nat) (nc : Nat) (nF : Nat) (np : Nat) (ntr : Nat) (nb : Nat) (mbestCost : Int32) (nso : Nat) (nsi : Nat) (nit : Nat) (nsh : Nat) (nsf : Nat) (nss : Nat) (nrc : Nat) (jr : Nat) (jd : Nat) (mnumber : Int32) (mwhose : Int32) (msize : Int32) (misParted : Int32) (fnrc : Nat → Int32) : Prop := MI l G yX12_bodyFrom cX12_bodyFrom 5 (some .int) 20 0 0 [.ref h0, .int 3, .int 1, .int xx] [(h0, oX12 nw nk mhasKept nt mtaped nr mrowMany mroundOf mroundFrom mouts nm mfromHour mtoHour ns mfrom mto msort misFault mdeep mcoded mlines nl nc nF np ntr nb mbestCost nso nsi nit nsh nsf nss nrc (nI jr) (nI jd) mnumber mwhose msize misParted), (nrc, iA G 30 fnrc)] (fun (r : Int32) (u : Nat × Int32 × (Nat → Int32)) => (True) ∧ (u.1 ≤ 30)) (fun u : Nat × Int32 × (Nat → Int32) => [(h0, oX12 nw nk mhasKept nt mtaped nr mrowMany mroundOf mroundFrom mouts nm mfromHour mtoHour ns mfrom mto msort misFault mdeep mcoded mlines nl nc nF np ntr nb mbestCost nso nsi nit nsh nsf nss nrc (nI u.1) (nI jd) mnumber mwhose msize u.2.1), (nrc, iA G 30 u.2.2)])
set_option maxHeartbeats 4000000 in
set_option maxRecDepth 100000 in
theorem m_from31 (l : Launch) (G : GG) (h0 : Nat) (xx : Int32) (nw : Nat) (nk : Nat) (mhasKept : Int32) (nt : Nat) (mtaped : Int32) (nr : Nat) (mrowMany : Int32) (mroundOf : Int32) (mroundFrom : Int32) (mouts : Int32) (nm : Nat) (mfromHour : Int32) (mtoHour : Int32) (ns : Nat) (mfrom : Int32) (mto : Int32) (msort : Int32) (misFault : Int32) (mdeep : Int32) (mcoded : Int32) (mlines : Int32) (nl : Nat) (nc : Nat) (nF : Nat) (np : Nat) (ntr : Nat) (nb : Nat) (mbestCost : Int32) (nso : Nat) (nsi : Nat) (nit : Nat) (nsh : Nat) (nsf : Nat) (nss : Nat) (nrc : Nat) (jr : Nat) (jd : Nat) (mnumber : Int32) (mwhose : Int32) (msize : Int32) (misParted : Int32) (fnrc : Nat → Int32) (hjr : jr ≤ 30) (hjd : jd < 7) : K_m_from31 l G h0 xx nw nk mhasKept nt mtaped nr mrowMany mroundOf mroundFrom mouts nm mfromHour mtoHour ns mfrom mto msort misFault mdeep mcoded mlines nl nc nF np ntr nb mbestCost nso nsi nit nsh nsf nss nrc jr jd mnumber mwhose msize misParted fnrc := by
  refine MI.start (by decide +kernel) (Nat.le_of_ble_eq_true rfl) ?_
  intro p e s m below meth c A ls hC hK hP hD hS hA hl
  refine absQ (fun Q0 hQ0 => ?_)
  have hl : lv_has ls 5 [(0, .ref h0), (1, .int 3), (2, .int 1), (3, .int xx)] := hl
  refine Kan8 hC (fun hx hb hr hml hB hown hlocks hnm => ?_)
  refine lv_iload_n hx hb gX12_bodyFrom_0.1 rfl (lv_at1 hl) ?_
  refine lv_istore (lv' := [(4, .int 3), (0, .ref h0), (1, .int 3), (2, .int 1), (3, .int xx)]) hx hb gX12_bodyFrom_0.2.1 hl (by decide) rfl (fun ls hl => ?_)
  refine lv_iload hx hb gX12_bodyFrom_0.2.2.1 (lv_at0 hl) ?_
  refine lv_iload_n hx hb gX12_bodyFrom_0.2.2.2.1 rfl (lv_at3 hl) ?_
  refine pS hC hK hl (m_hasOwn31 l G) si_X12_360 rfl rfl (Nat.le_of_ble_eq_true rfl) rm_20_1_2 ⟨by first | exact Nat.le_of_ble_eq_true rfl | exact Nat.zero_le _, by first | exact Nat.le_of_ble_eq_true rfl | exact Nat.zero_le _⟩ gX12_bodyFrom_0.2.2.2.2.1 (Keqr ?_)
  refine lv_if_ne (tgt := 22) hx hb gX12_bodyFrom_0.2.2.2.2.2.1 (by decide) (fun _ => ?_) (fun c9 => absurd c9 (by decide))
  refine lv_aload_n hx hb gX12_bodyFrom_1.1 rfl (lv_at1 hl) ?_
  refine lv_iload hx hb gX12_bodyFrom_1.2.1 (lv_at0 hl) ?_
  refine lv_iload_n hx hb gX12_bodyFrom_1.2.2.1 rfl (lv_at3 hl) ?_
  refine lv_iload_n hx hb gX12_bodyFrom_1.2.2.2.1 rfl (lv_at4 hl) ?_
  refine iV (wr := []) hC hK hl hP hD hS hA (m_body31 l G h0 xx nw nk mhasKept nt mtaped nr mrowMany mroundOf mroundFrom mouts nm mfromHour mtoHour ns mfrom mto msort misFault mdeep mcoded mlines nl nc nF np ntr nb mbestCost nso nsi nit nsh nsf nss nrc jr jd mnumber mwhose msize misParted fnrc (hjr) (hjd)) si_X12_363 [0, 1] [] sm_0_1 fm_0_1 nd_0_1 rfl rfl (by decide) rfl rfl rfl rfl rfl (Nat.le_of_ble_eq_true rfl) rm_20_19_6 ⟨Nat.le_of_ble_eq_true rfl, Nat.le_of_ble_eq_true rfl⟩ gX12_bodyFrom_1.2.2.2.2.1 (fun r5786 => Ktu3 fun jr15788 ip15789 gtrc5790 => ?_)
  intro H locs hr5786 hP hD hS
  try dsimp only at hr5786
  refine Kpdr (ws := [(h0, oX12 nw nk mhasKept nt mtaped nr mrowMany mroundOf mroundFrom mouts nm mfromHour mtoHour ns mfrom mto msort misFault mdeep mcoded mlines nl nc nF np ntr nb mbestCost nso nsi nit nsh nsf nss nrc (nI jr15788) (nI jd) mnumber mwhose msize ip15789), (nrc, iA G 30 gtrc5790)]) hP hD (fun hP hD => ?_)
  obtain ⟨hr5786, w5791⟩ := hr5786
  refine toQ hQ0 ?_
  exact RI (v := r5786) hC hP hD hS [0, 1] (jr15788, ip15789, gtrc5790) rfl rfl (by decide) (⟨trivial, by omega⟩) rfl gX12_bodyFrom_1.2.2.2.2.2
def K_m_from21 (l : Launch) (G : GG) (h0 : Nat) (xx : Int32) (nw : Nat) (nk : Nat) (mhasKept : Int32) (nt : Nat) (mtaped : Int32) (nr : Nat) (mrowMany : Int32) (mroundOf : Int32) (mroundFrom : Int32) (mouts : Int32) (nm : Nat) (mfromHour : Int32) (mtoHour : Int32) (ns : Nat) (mfrom : Int32) (mto : Int32) (msort : Int32) (misFault : Int32) (mdeep : Int32) (mcoded : Int32) (mlines : Int32) (nl : Nat) (nc : Nat) (nF : Nat) (np : Nat) (ntr : Nat) (nb : Nat) (mbestCost : Int32) (nso : Nat) (nsi : Nat) (nit : Nat) (nsh : Nat) (nsf : Nat) (nss : Nat) (nrc : Nat) (jr : Nat) (jd : Nat) (mnumber : Int32) (mwhose : Int32) (msize : Int32) (misParted : Int32) (fnrc : Nat → Int32) : Prop := MI l G yX12_bodyFrom cX12_bodyFrom 5 (some .int) 24 0 0 [.ref h0, .int 2, .int 1, .int xx] [(h0, oX12 nw nk mhasKept nt mtaped nr mrowMany mroundOf mroundFrom mouts nm mfromHour mtoHour ns mfrom mto msort misFault mdeep mcoded mlines nl nc nF np ntr nb mbestCost nso nsi nit nsh nsf nss nrc (nI jr) (nI jd) mnumber mwhose msize misParted), (nrc, iA G 30 fnrc)] (fun (r : Int32) (u : Nat × Int32 × (Nat → Int32)) => (True) ∧ (u.1 ≤ 30)) (fun u : Nat × Int32 × (Nat → Int32) => [(h0, oX12 nw nk mhasKept nt mtaped nr mrowMany mroundOf mroundFrom mouts nm mfromHour mtoHour ns mfrom mto msort misFault mdeep mcoded mlines nl nc nF np ntr nb mbestCost nso nsi nit nsh nsf nss nrc (nI u.1) (nI jd) mnumber mwhose msize u.2.1), (nrc, iA G 30 u.2.2)])
set_option maxHeartbeats 4000000 in
set_option maxRecDepth 100000 in
theorem m_from21 (l : Launch) (G : GG) (h0 : Nat) (xx : Int32) (nw : Nat) (nk : Nat) (mhasKept : Int32) (nt : Nat) (mtaped : Int32) (nr : Nat) (mrowMany : Int32) (mroundOf : Int32) (mroundFrom : Int32) (mouts : Int32) (nm : Nat) (mfromHour : Int32) (mtoHour : Int32) (ns : Nat) (mfrom : Int32) (mto : Int32) (msort : Int32) (misFault : Int32) (mdeep : Int32) (mcoded : Int32) (mlines : Int32) (nl : Nat) (nc : Nat) (nF : Nat) (np : Nat) (ntr : Nat) (nb : Nat) (mbestCost : Int32) (nso : Nat) (nsi : Nat) (nit : Nat) (nsh : Nat) (nsf : Nat) (nss : Nat) (nrc : Nat) (jr : Nat) (jd : Nat) (mnumber : Int32) (mwhose : Int32) (msize : Int32) (misParted : Int32) (fnrc : Nat → Int32) (hjr : jr ≤ 30) (hjd : jd < 7) : K_m_from21 l G h0 xx nw nk mhasKept nt mtaped nr mrowMany mroundOf mroundFrom mouts nm mfromHour mtoHour ns mfrom mto msort misFault mdeep mcoded mlines nl nc nF np ntr nb mbestCost nso nsi nit nsh nsf nss nrc jr jd mnumber mwhose msize misParted fnrc := by
  refine MI.start (by decide +kernel) (Nat.le_of_ble_eq_true rfl) ?_
  intro p e s m below meth c A ls hC hK hP hD hS hA hl
  refine absQ (fun Q0 hQ0 => ?_)
  have hl : lv_has ls 5 [(0, .ref h0), (1, .int 2), (2, .int 1), (3, .int xx)] := hl
  refine Kan8 hC (fun hx hb hr hml hB hown hlocks hnm => ?_)
  refine lv_iload_n hx hb gX12_bodyFrom_0.1 rfl (lv_at1 hl) ?_
  refine lv_istore (lv' := [(4, .int 2), (0, .ref h0), (1, .int 2), (2, .int 1), (3, .int xx)]) hx hb gX12_bodyFrom_0.2.1 hl (by decide) rfl (fun ls hl => ?_)
  refine lv_iload hx hb gX12_bodyFrom_0.2.2.1 (lv_at0 hl) ?_
  refine lv_iload_n hx hb gX12_bodyFrom_0.2.2.2.1 rfl (lv_at3 hl) ?_
  refine pS hC hK hl (m_hasOwn21 l G) si_X12_360 rfl rfl (Nat.le_of_ble_eq_true rfl) rm_24_1_2 ⟨by first | exact Nat.le_of_ble_eq_true rfl | exact Nat.zero_le _, by first | exact Nat.le_of_ble_eq_true rfl | exact Nat.zero_le _⟩ gX12_bodyFrom_0.2.2.2.2.1 (Keqr ?_)
  refine lv_if_ne (tgt := 22) hx hb gX12_bodyFrom_0.2.2.2.2.2.1 (by decide) (fun c9 => absurd (by decide) c9) (fun _ => ?_)
  refine lv_iload hx hb gX12_bodyFrom_0.2.2.2.2.2.2.1 (lv_at0 hl) ?_
  refine pS hC hK hl (m_above2 l G) si_X12_348 rfl rfl (Nat.le_of_ble_eq_true rfl) rm_24_1_1 ⟨by first | exact Nat.le_of_ble_eq_true rfl | exact Nat.zero_le _, by first | exact Nat.le_of_ble_eq_true rfl | exact Nat.zero_le _⟩ gX12_bodyFrom_0.2.2.2.2.2.2.2.1 (Keqr ?_)
  refine lv_istore (lv' := [(4, .int 0), (0, .ref h0), (1, .int 2), (2, .int 1), (3, .int xx)]) hx hb gX12_bodyFrom_0.2.2.2.2.2.2.2.2.1 hl (by decide) rfl (fun ls hl => ?_)
  refine lv_goto (tgt := 3) hx hb gX12_bodyFrom_0.2.2.2.2.2.2.2.2.2 (by decide) ?_
  refine lv_iload hx hb gX12_bodyFrom_0.2.2.1 (lv_at0 hl) ?_
  refine lv_iload_n hx hb gX12_bodyFrom_0.2.2.2.1 rfl (lv_at3 hl) ?_
  refine pS hC hK hl (m_hasOwn01 l G) si_X12_360 rfl rfl (Nat.le_of_ble_eq_true rfl) rm_24_1_2 ⟨by first | exact Nat.le_of_ble_eq_true rfl | exact Nat.zero_le _, by first | exact Nat.le_of_ble_eq_true rfl | exact Nat.zero_le _⟩ gX12_bodyFrom_0.2.2.2.2.1 (Keqr ?_)
  refine lv_if_ne (tgt := 22) hx hb gX12_bodyFrom_0.2.2.2.2.2.1 (by decide) (fun _ => ?_) (fun c9 => absurd c9 (by decide))
  refine lv_aload_n hx hb gX12_bodyFrom_1.1 rfl (lv_at1 hl) ?_
  refine lv_iload hx hb gX12_bodyFrom_1.2.1 (lv_at0 hl) ?_
  refine lv_iload_n hx hb gX12_bodyFrom_1.2.2.1 rfl (lv_at3 hl) ?_
  refine lv_iload_n hx hb gX12_bodyFrom_1.2.2.2.1 rfl (lv_at4 hl) ?_
  refine iV (wr := []) hC hK hl hP hD hS hA (m_body01 l G h0 xx nw nk mhasKept nt mtaped nr mrowMany mroundOf mroundFrom mouts nm mfromHour mtoHour ns mfrom mto msort misFault mdeep mcoded mlines nl nc nF np ntr nb mbestCost nso nsi nit nsh nsf nss nrc jr jd mnumber mwhose msize misParted fnrc (hjr) (hjd)) si_X12_363 [0, 1] [] sm_0_1 fm_0_1 nd_0_1 rfl rfl (by decide) rfl rfl rfl rfl rfl (Nat.le_of_ble_eq_true rfl) rm_24_15_6 ⟨Nat.le_of_ble_eq_true rfl, Nat.le_of_ble_eq_true rfl⟩ gX12_bodyFrom_1.2.2.2.2.1 (fun r5798 => Ktu3 fun jr15800 ip15801 gtrc5802 => ?_)
  intro H locs hr5798 hP hD hS
  try dsimp only at hr5798
  refine Kpdr (ws := [(h0, oX12 nw nk mhasKept nt mtaped nr mrowMany mroundOf mroundFrom mouts nm mfromHour mtoHour ns mfrom mto msort misFault mdeep mcoded mlines nl nc nF np ntr nb mbestCost nso nsi nit nsh nsf nss nrc (nI jr15800) (nI jd) mnumber mwhose msize ip15801), (nrc, iA G 30 gtrc5802)]) hP hD (fun hP hD => ?_)
  obtain ⟨hr5798, w5803⟩ := hr5798
  refine toQ hQ0 ?_
  exact RI (v := r5798) hC hP hD hS [0, 1] (jr15800, ip15801, gtrc5802) rfl rfl (by decide) (⟨trivial, by omega⟩) rfl gX12_bodyFrom_1.2.2.2.2.2
def K_m_from41 (l : Launch) (G : GG) (h0 : Nat) (xx : Int32) (nw : Nat) (nk : Nat) (mhasKept : Int32) (nt : Nat) (mtaped : Int32) (nr : Nat) (mrowMany : Int32) (mroundOf : Int32) (mroundFrom : Int32) (mouts : Int32) (nm : Nat) (mfromHour : Int32) (mtoHour : Int32) (ns : Nat) (mfrom : Int32) (mto : Int32) (msort : Int32) (misFault : Int32) (mdeep : Int32) (mcoded : Int32) (mlines : Int32) (nl : Nat) (nc : Nat) (nF : Nat) (np : Nat) (ntr : Nat) (nb : Nat) (mbestCost : Int32) (nso : Nat) (nsi : Nat) (nit : Nat) (nsh : Nat) (nsf : Nat) (nss : Nat) (nrc : Nat) (jr : Nat) (jd : Nat) (mnumber : Int32) (mwhose : Int32) (msize : Int32) (misParted : Int32) (fnrc : Nat → Int32) : Prop := MI l G yX12_bodyFrom cX12_bodyFrom 5 (some .int) 24 0 0 [.ref h0, .int 4, .int 1, .int xx] [(h0, oX12 nw nk mhasKept nt mtaped nr mrowMany mroundOf mroundFrom mouts nm mfromHour mtoHour ns mfrom mto msort misFault mdeep mcoded mlines nl nc nF np ntr nb mbestCost nso nsi nit nsh nsf nss nrc (nI jr) (nI jd) mnumber mwhose msize misParted), (nrc, iA G 30 fnrc)] (fun (r : Int32) (u : Nat × Int32 × (Nat → Int32)) => (True) ∧ (u.1 ≤ 30)) (fun u : Nat × Int32 × (Nat → Int32) => [(h0, oX12 nw nk mhasKept nt mtaped nr mrowMany mroundOf mroundFrom mouts nm mfromHour mtoHour ns mfrom mto msort misFault mdeep mcoded mlines nl nc nF np ntr nb mbestCost nso nsi nit nsh nsf nss nrc (nI u.1) (nI jd) mnumber mwhose msize u.2.1), (nrc, iA G 30 u.2.2)])
set_option maxHeartbeats 4000000 in
set_option maxRecDepth 100000 in
theorem m_from41 (l : Launch) (G : GG) (h0 : Nat) (xx : Int32) (nw : Nat) (nk : Nat) (mhasKept : Int32) (nt : Nat) (mtaped : Int32) (nr : Nat) (mrowMany : Int32) (mroundOf : Int32) (mroundFrom : Int32) (mouts : Int32) (nm : Nat) (mfromHour : Int32) (mtoHour : Int32) (ns : Nat) (mfrom : Int32) (mto : Int32) (msort : Int32) (misFault : Int32) (mdeep : Int32) (mcoded : Int32) (mlines : Int32) (nl : Nat) (nc : Nat) (nF : Nat) (np : Nat) (ntr : Nat) (nb : Nat) (mbestCost : Int32) (nso : Nat) (nsi : Nat) (nit : Nat) (nsh : Nat) (nsf : Nat) (nss : Nat) (nrc : Nat) (jr : Nat) (jd : Nat) (mnumber : Int32) (mwhose : Int32) (msize : Int32) (misParted : Int32) (fnrc : Nat → Int32) (hjr : jr ≤ 30) (hjd : jd < 7) : K_m_from41 l G h0 xx nw nk mhasKept nt mtaped nr mrowMany mroundOf mroundFrom mouts nm mfromHour mtoHour ns mfrom mto msort misFault mdeep mcoded mlines nl nc nF np ntr nb mbestCost nso nsi nit nsh nsf nss nrc jr jd mnumber mwhose msize misParted fnrc := by
  refine MI.start (by decide +kernel) (Nat.le_of_ble_eq_true rfl) ?_
  intro p e s m below meth c A ls hC hK hP hD hS hA hl
  refine absQ (fun Q0 hQ0 => ?_)
  have hl : lv_has ls 5 [(0, .ref h0), (1, .int 4), (2, .int 1), (3, .int xx)] := hl
  refine Kan8 hC (fun hx hb hr hml hB hown hlocks hnm => ?_)
  refine lv_iload_n hx hb gX12_bodyFrom_0.1 rfl (lv_at1 hl) ?_
  refine lv_istore (lv' := [(4, .int 4), (0, .ref h0), (1, .int 4), (2, .int 1), (3, .int xx)]) hx hb gX12_bodyFrom_0.2.1 hl (by decide) rfl (fun ls hl => ?_)
  refine lv_iload hx hb gX12_bodyFrom_0.2.2.1 (lv_at0 hl) ?_
  refine lv_iload_n hx hb gX12_bodyFrom_0.2.2.2.1 rfl (lv_at3 hl) ?_
  refine pS hC hK hl (m_hasOwn41 l G) si_X12_360 rfl rfl (Nat.le_of_ble_eq_true rfl) rm_24_1_2 ⟨by first | exact Nat.le_of_ble_eq_true rfl | exact Nat.zero_le _, by first | exact Nat.le_of_ble_eq_true rfl | exact Nat.zero_le _⟩ gX12_bodyFrom_0.2.2.2.2.1 (Keqr ?_)
  refine lv_if_ne (tgt := 22) hx hb gX12_bodyFrom_0.2.2.2.2.2.1 (by decide) (fun c9 => absurd (by decide) c9) (fun _ => ?_)
  refine lv_iload hx hb gX12_bodyFrom_0.2.2.2.2.2.2.1 (lv_at0 hl) ?_
  refine pS hC hK hl (m_above4 l G) si_X12_348 rfl rfl (Nat.le_of_ble_eq_true rfl) rm_24_1_1 ⟨by first | exact Nat.le_of_ble_eq_true rfl | exact Nat.zero_le _, by first | exact Nat.le_of_ble_eq_true rfl | exact Nat.zero_le _⟩ gX12_bodyFrom_0.2.2.2.2.2.2.2.1 (Keqr ?_)
  refine lv_istore (lv' := [(4, .int 0), (0, .ref h0), (1, .int 4), (2, .int 1), (3, .int xx)]) hx hb gX12_bodyFrom_0.2.2.2.2.2.2.2.2.1 hl (by decide) rfl (fun ls hl => ?_)
  refine lv_goto (tgt := 3) hx hb gX12_bodyFrom_0.2.2.2.2.2.2.2.2.2 (by decide) ?_
  refine lv_iload hx hb gX12_bodyFrom_0.2.2.1 (lv_at0 hl) ?_
  refine lv_iload_n hx hb gX12_bodyFrom_0.2.2.2.1 rfl (lv_at3 hl) ?_
  refine pS hC hK hl (m_hasOwn01 l G) si_X12_360 rfl rfl (Nat.le_of_ble_eq_true rfl) rm_24_1_2 ⟨by first | exact Nat.le_of_ble_eq_true rfl | exact Nat.zero_le _, by first | exact Nat.le_of_ble_eq_true rfl | exact Nat.zero_le _⟩ gX12_bodyFrom_0.2.2.2.2.1 (Keqr ?_)
  refine lv_if_ne (tgt := 22) hx hb gX12_bodyFrom_0.2.2.2.2.2.1 (by decide) (fun _ => ?_) (fun c9 => absurd c9 (by decide))
  refine lv_aload_n hx hb gX12_bodyFrom_1.1 rfl (lv_at1 hl) ?_
  refine lv_iload hx hb gX12_bodyFrom_1.2.1 (lv_at0 hl) ?_
  refine lv_iload_n hx hb gX12_bodyFrom_1.2.2.1 rfl (lv_at3 hl) ?_
  refine lv_iload_n hx hb gX12_bodyFrom_1.2.2.2.1 rfl (lv_at4 hl) ?_
  refine iV (wr := []) hC hK hl hP hD hS hA (m_body01 l G h0 xx nw nk mhasKept nt mtaped nr mrowMany mroundOf mroundFrom mouts nm mfromHour mtoHour ns mfrom mto msort misFault mdeep mcoded mlines nl nc nF np ntr nb mbestCost nso nsi nit nsh nsf nss nrc jr jd mnumber mwhose msize misParted fnrc (hjr) (hjd)) si_X12_363 [0, 1] [] sm_0_1 fm_0_1 nd_0_1 rfl rfl (by decide) rfl rfl rfl rfl rfl (Nat.le_of_ble_eq_true rfl) rm_24_15_6 ⟨Nat.le_of_ble_eq_true rfl, Nat.le_of_ble_eq_true rfl⟩ gX12_bodyFrom_1.2.2.2.2.1 (fun r5810 => Ktu3 fun jr15812 ip15813 gtrc5814 => ?_)
  intro H locs hr5810 hP hD hS
  try dsimp only at hr5810
  refine Kpdr (ws := [(h0, oX12 nw nk mhasKept nt mtaped nr mrowMany mroundOf mroundFrom mouts nm mfromHour mtoHour ns mfrom mto msort misFault mdeep mcoded mlines nl nc nF np ntr nb mbestCost nso nsi nit nsh nsf nss nrc (nI jr15812) (nI jd) mnumber mwhose msize ip15813), (nrc, iA G 30 gtrc5814)]) hP hD (fun hP hD => ?_)
  obtain ⟨hr5810, w5815⟩ := hr5810
  refine toQ hQ0 ?_
  exact RI (v := r5810) hC hP hD hS [0, 1] (jr15812, ip15813, gtrc5814) rfl rfl (by decide) (⟨trivial, by omega⟩) rfl gX12_bodyFrom_1.2.2.2.2.2
def K_m_from51 (l : Launch) (G : GG) (h0 : Nat) (xx : Int32) (nw : Nat) (nk : Nat) (mhasKept : Int32) (nt : Nat) (mtaped : Int32) (nr : Nat) (mrowMany : Int32) (mroundOf : Int32) (mroundFrom : Int32) (mouts : Int32) (nm : Nat) (mfromHour : Int32) (mtoHour : Int32) (ns : Nat) (mfrom : Int32) (mto : Int32) (msort : Int32) (misFault : Int32) (mdeep : Int32) (mcoded : Int32) (mlines : Int32) (nl : Nat) (nc : Nat) (nF : Nat) (np : Nat) (ntr : Nat) (nb : Nat) (mbestCost : Int32) (nso : Nat) (nsi : Nat) (nit : Nat) (nsh : Nat) (nsf : Nat) (nss : Nat) (nrc : Nat) (jr : Nat) (jd : Nat) (mnumber : Int32) (mwhose : Int32) (msize : Int32) (misParted : Int32) (fnrc : Nat → Int32) : Prop := MI l G yX12_bodyFrom cX12_bodyFrom 5 (some .int) 24 0 0 [.ref h0, .int 5, .int 1, .int xx] [(h0, oX12 nw nk mhasKept nt mtaped nr mrowMany mroundOf mroundFrom mouts nm mfromHour mtoHour ns mfrom mto msort misFault mdeep mcoded mlines nl nc nF np ntr nb mbestCost nso nsi nit nsh nsf nss nrc (nI jr) (nI jd) mnumber mwhose msize misParted), (nrc, iA G 30 fnrc)] (fun (r : Int32) (u : Nat × Int32 × (Nat → Int32)) => (True) ∧ (u.1 ≤ 30)) (fun u : Nat × Int32 × (Nat → Int32) => [(h0, oX12 nw nk mhasKept nt mtaped nr mrowMany mroundOf mroundFrom mouts nm mfromHour mtoHour ns mfrom mto msort misFault mdeep mcoded mlines nl nc nF np ntr nb mbestCost nso nsi nit nsh nsf nss nrc (nI u.1) (nI jd) mnumber mwhose msize u.2.1), (nrc, iA G 30 u.2.2)])
set_option maxHeartbeats 4000000 in
set_option maxRecDepth 100000 in
theorem m_from51 (l : Launch) (G : GG) (h0 : Nat) (xx : Int32) (nw : Nat) (nk : Nat) (mhasKept : Int32) (nt : Nat) (mtaped : Int32) (nr : Nat) (mrowMany : Int32) (mroundOf : Int32) (mroundFrom : Int32) (mouts : Int32) (nm : Nat) (mfromHour : Int32) (mtoHour : Int32) (ns : Nat) (mfrom : Int32) (mto : Int32) (msort : Int32) (misFault : Int32) (mdeep : Int32) (mcoded : Int32) (mlines : Int32) (nl : Nat) (nc : Nat) (nF : Nat) (np : Nat) (ntr : Nat) (nb : Nat) (mbestCost : Int32) (nso : Nat) (nsi : Nat) (nit : Nat) (nsh : Nat) (nsf : Nat) (nss : Nat) (nrc : Nat) (jr : Nat) (jd : Nat) (mnumber : Int32) (mwhose : Int32) (msize : Int32) (misParted : Int32) (fnrc : Nat → Int32) (hjr : jr ≤ 30) (hjd : jd < 7) : K_m_from51 l G h0 xx nw nk mhasKept nt mtaped nr mrowMany mroundOf mroundFrom mouts nm mfromHour mtoHour ns mfrom mto msort misFault mdeep mcoded mlines nl nc nF np ntr nb mbestCost nso nsi nit nsh nsf nss nrc jr jd mnumber mwhose msize misParted fnrc := by
  refine MI.start (by decide +kernel) (Nat.le_of_ble_eq_true rfl) ?_
  intro p e s m below meth c A ls hC hK hP hD hS hA hl
  refine absQ (fun Q0 hQ0 => ?_)
  have hl : lv_has ls 5 [(0, .ref h0), (1, .int 5), (2, .int 1), (3, .int xx)] := hl
  refine Kan8 hC (fun hx hb hr hml hB hown hlocks hnm => ?_)
  refine lv_iload_n hx hb gX12_bodyFrom_0.1 rfl (lv_at1 hl) ?_
  refine lv_istore (lv' := [(4, .int 5), (0, .ref h0), (1, .int 5), (2, .int 1), (3, .int xx)]) hx hb gX12_bodyFrom_0.2.1 hl (by decide) rfl (fun ls hl => ?_)
  refine lv_iload hx hb gX12_bodyFrom_0.2.2.1 (lv_at0 hl) ?_
  refine lv_iload_n hx hb gX12_bodyFrom_0.2.2.2.1 rfl (lv_at3 hl) ?_
  refine pS hC hK hl (m_hasOwn51 l G) si_X12_360 rfl rfl (Nat.le_of_ble_eq_true rfl) rm_24_1_2 ⟨by first | exact Nat.le_of_ble_eq_true rfl | exact Nat.zero_le _, by first | exact Nat.le_of_ble_eq_true rfl | exact Nat.zero_le _⟩ gX12_bodyFrom_0.2.2.2.2.1 (Keqr ?_)
  refine lv_if_ne (tgt := 22) hx hb gX12_bodyFrom_0.2.2.2.2.2.1 (by decide) (fun c9 => absurd (by decide) c9) (fun _ => ?_)
  refine lv_iload hx hb gX12_bodyFrom_0.2.2.2.2.2.2.1 (lv_at0 hl) ?_
  refine pS hC hK hl (m_above5 l G) si_X12_348 rfl rfl (Nat.le_of_ble_eq_true rfl) rm_24_1_1 ⟨by first | exact Nat.le_of_ble_eq_true rfl | exact Nat.zero_le _, by first | exact Nat.le_of_ble_eq_true rfl | exact Nat.zero_le _⟩ gX12_bodyFrom_0.2.2.2.2.2.2.2.1 (Keqr ?_)
  refine lv_istore (lv' := [(4, .int 4), (0, .ref h0), (1, .int 5), (2, .int 1), (3, .int xx)]) hx hb gX12_bodyFrom_0.2.2.2.2.2.2.2.2.1 hl (by decide) rfl (fun ls hl => ?_)
  refine lv_goto (tgt := 3) hx hb gX12_bodyFrom_0.2.2.2.2.2.2.2.2.2 (by decide) ?_
  refine lv_iload hx hb gX12_bodyFrom_0.2.2.1 (lv_at0 hl) ?_
  refine lv_iload_n hx hb gX12_bodyFrom_0.2.2.2.1 rfl (lv_at3 hl) ?_
  refine pS hC hK hl (m_hasOwn41 l G) si_X12_360 rfl rfl (Nat.le_of_ble_eq_true rfl) rm_24_1_2 ⟨by first | exact Nat.le_of_ble_eq_true rfl | exact Nat.zero_le _, by first | exact Nat.le_of_ble_eq_true rfl | exact Nat.zero_le _⟩ gX12_bodyFrom_0.2.2.2.2.1 (Keqr ?_)
  refine lv_if_ne (tgt := 22) hx hb gX12_bodyFrom_0.2.2.2.2.2.1 (by decide) (fun c9 => absurd (by decide) c9) (fun _ => ?_)
  refine lv_iload hx hb gX12_bodyFrom_0.2.2.2.2.2.2.1 (lv_at0 hl) ?_
  refine pS hC hK hl (m_above4 l G) si_X12_348 rfl rfl (Nat.le_of_ble_eq_true rfl) rm_24_1_1 ⟨by first | exact Nat.le_of_ble_eq_true rfl | exact Nat.zero_le _, by first | exact Nat.le_of_ble_eq_true rfl | exact Nat.zero_le _⟩ gX12_bodyFrom_0.2.2.2.2.2.2.2.1 (Keqr ?_)
  refine lv_istore (lv' := [(4, .int 0), (0, .ref h0), (1, .int 5), (2, .int 1), (3, .int xx)]) hx hb gX12_bodyFrom_0.2.2.2.2.2.2.2.2.1 hl (by decide) rfl (fun ls hl => ?_)
  refine lv_goto (tgt := 3) hx hb gX12_bodyFrom_0.2.2.2.2.2.2.2.2.2 (by decide) ?_
  refine lv_iload hx hb gX12_bodyFrom_0.2.2.1 (lv_at0 hl) ?_
  refine lv_iload_n hx hb gX12_bodyFrom_0.2.2.2.1 rfl (lv_at3 hl) ?_
  refine pS hC hK hl (m_hasOwn01 l G) si_X12_360 rfl rfl (Nat.le_of_ble_eq_true rfl) rm_24_1_2 ⟨by first | exact Nat.le_of_ble_eq_true rfl | exact Nat.zero_le _, by first | exact Nat.le_of_ble_eq_true rfl | exact Nat.zero_le _⟩ gX12_bodyFrom_0.2.2.2.2.1 (Keqr ?_)
  refine lv_if_ne (tgt := 22) hx hb gX12_bodyFrom_0.2.2.2.2.2.1 (by decide) (fun _ => ?_) (fun c9 => absurd c9 (by decide))
  refine lv_aload_n hx hb gX12_bodyFrom_1.1 rfl (lv_at1 hl) ?_
  refine lv_iload hx hb gX12_bodyFrom_1.2.1 (lv_at0 hl) ?_
  refine lv_iload_n hx hb gX12_bodyFrom_1.2.2.1 rfl (lv_at3 hl) ?_
  refine lv_iload_n hx hb gX12_bodyFrom_1.2.2.2.1 rfl (lv_at4 hl) ?_
  refine iV (wr := []) hC hK hl hP hD hS hA (m_body01 l G h0 xx nw nk mhasKept nt mtaped nr mrowMany mroundOf mroundFrom mouts nm mfromHour mtoHour ns mfrom mto msort misFault mdeep mcoded mlines nl nc nF np ntr nb mbestCost nso nsi nit nsh nsf nss nrc jr jd mnumber mwhose msize misParted fnrc (hjr) (hjd)) si_X12_363 [0, 1] [] sm_0_1 fm_0_1 nd_0_1 rfl rfl (by decide) rfl rfl rfl rfl rfl (Nat.le_of_ble_eq_true rfl) rm_24_15_6 ⟨Nat.le_of_ble_eq_true rfl, Nat.le_of_ble_eq_true rfl⟩ gX12_bodyFrom_1.2.2.2.2.1 (fun r5826 => Ktu3 fun jr15828 ip15829 gtrc5830 => ?_)
  intro H locs hr5826 hP hD hS
  try dsimp only at hr5826
  refine Kpdr (ws := [(h0, oX12 nw nk mhasKept nt mtaped nr mrowMany mroundOf mroundFrom mouts nm mfromHour mtoHour ns mfrom mto msort misFault mdeep mcoded mlines nl nc nF np ntr nb mbestCost nso nsi nit nsh nsf nss nrc (nI jr15828) (nI jd) mnumber mwhose msize ip15829), (nrc, iA G 30 gtrc5830)]) hP hD (fun hP hD => ?_)
  obtain ⟨hr5826, w5831⟩ := hr5826
  refine toQ hQ0 ?_
  exact RI (v := r5826) hC hP hD hS [0, 1] (jr15828, ip15829, gtrc5830) rfl rfl (by decide) (⟨trivial, by omega⟩) rfl gX12_bodyFrom_1.2.2.2.2.2
def K_m_from61 (l : Launch) (G : GG) (h0 : Nat) (xx : Int32) (nw : Nat) (nk : Nat) (mhasKept : Int32) (nt : Nat) (mtaped : Int32) (nr : Nat) (mrowMany : Int32) (mroundOf : Int32) (mroundFrom : Int32) (mouts : Int32) (nm : Nat) (mfromHour : Int32) (mtoHour : Int32) (ns : Nat) (mfrom : Int32) (mto : Int32) (msort : Int32) (misFault : Int32) (mdeep : Int32) (mcoded : Int32) (mlines : Int32) (nl : Nat) (nc : Nat) (nF : Nat) (np : Nat) (ntr : Nat) (nb : Nat) (mbestCost : Int32) (nso : Nat) (nsi : Nat) (nit : Nat) (nsh : Nat) (nsf : Nat) (nss : Nat) (nrc : Nat) (jr : Nat) (jd : Nat) (mnumber : Int32) (mwhose : Int32) (msize : Int32) (misParted : Int32) (fnrc : Nat → Int32) : Prop := MI l G yX12_bodyFrom cX12_bodyFrom 5 (some .int) 24 0 0 [.ref h0, .int 6, .int 1, .int xx] [(h0, oX12 nw nk mhasKept nt mtaped nr mrowMany mroundOf mroundFrom mouts nm mfromHour mtoHour ns mfrom mto msort misFault mdeep mcoded mlines nl nc nF np ntr nb mbestCost nso nsi nit nsh nsf nss nrc (nI jr) (nI jd) mnumber mwhose msize misParted), (nrc, iA G 30 fnrc)] (fun (r : Int32) (u : Nat × Int32 × (Nat → Int32)) => (True) ∧ (u.1 ≤ 30)) (fun u : Nat × Int32 × (Nat → Int32) => [(h0, oX12 nw nk mhasKept nt mtaped nr mrowMany mroundOf mroundFrom mouts nm mfromHour mtoHour ns mfrom mto msort misFault mdeep mcoded mlines nl nc nF np ntr nb mbestCost nso nsi nit nsh nsf nss nrc (nI u.1) (nI jd) mnumber mwhose msize u.2.1), (nrc, iA G 30 u.2.2)])
set_option maxHeartbeats 4000000 in
set_option maxRecDepth 100000 in
theorem m_from61 (l : Launch) (G : GG) (h0 : Nat) (xx : Int32) (nw : Nat) (nk : Nat) (mhasKept : Int32) (nt : Nat) (mtaped : Int32) (nr : Nat) (mrowMany : Int32) (mroundOf : Int32) (mroundFrom : Int32) (mouts : Int32) (nm : Nat) (mfromHour : Int32) (mtoHour : Int32) (ns : Nat) (mfrom : Int32) (mto : Int32) (msort : Int32) (misFault : Int32) (mdeep : Int32) (mcoded : Int32) (mlines : Int32) (nl : Nat) (nc : Nat) (nF : Nat) (np : Nat) (ntr : Nat) (nb : Nat) (mbestCost : Int32) (nso : Nat) (nsi : Nat) (nit : Nat) (nsh : Nat) (nsf : Nat) (nss : Nat) (nrc : Nat) (jr : Nat) (jd : Nat) (mnumber : Int32) (mwhose : Int32) (msize : Int32) (misParted : Int32) (fnrc : Nat → Int32) (hjr : jr ≤ 30) (hjd : jd < 7) : K_m_from61 l G h0 xx nw nk mhasKept nt mtaped nr mrowMany mroundOf mroundFrom mouts nm mfromHour mtoHour ns mfrom mto msort misFault mdeep mcoded mlines nl nc nF np ntr nb mbestCost nso nsi nit nsh nsf nss nrc jr jd mnumber mwhose msize misParted fnrc := by
  refine MI.start (by decide +kernel) (Nat.le_of_ble_eq_true rfl) ?_
  intro p e s m below meth c A ls hC hK hP hD hS hA hl
  refine absQ (fun Q0 hQ0 => ?_)
  have hl : lv_has ls 5 [(0, .ref h0), (1, .int 6), (2, .int 1), (3, .int xx)] := hl
  refine Kan8 hC (fun hx hb hr hml hB hown hlocks hnm => ?_)
  refine lv_iload_n hx hb gX12_bodyFrom_0.1 rfl (lv_at1 hl) ?_
  refine lv_istore (lv' := [(4, .int 6), (0, .ref h0), (1, .int 6), (2, .int 1), (3, .int xx)]) hx hb gX12_bodyFrom_0.2.1 hl (by decide) rfl (fun ls hl => ?_)
  refine lv_iload hx hb gX12_bodyFrom_0.2.2.1 (lv_at0 hl) ?_
  refine lv_iload_n hx hb gX12_bodyFrom_0.2.2.2.1 rfl (lv_at3 hl) ?_
  refine pS hC hK hl (m_hasOwn61 l G) si_X12_360 rfl rfl (Nat.le_of_ble_eq_true rfl) rm_24_1_2 ⟨by first | exact Nat.le_of_ble_eq_true rfl | exact Nat.zero_le _, by first | exact Nat.le_of_ble_eq_true rfl | exact Nat.zero_le _⟩ gX12_bodyFrom_0.2.2.2.2.1 (Keqr ?_)
  refine lv_if_ne (tgt := 22) hx hb gX12_bodyFrom_0.2.2.2.2.2.1 (by decide) (fun c9 => absurd (by decide) c9) (fun _ => ?_)
  refine lv_iload hx hb gX12_bodyFrom_0.2.2.2.2.2.2.1 (lv_at0 hl) ?_
  refine pS hC hK hl (m_above6 l G) si_X12_348 rfl rfl (Nat.le_of_ble_eq_true rfl) rm_24_1_1 ⟨by first | exact Nat.le_of_ble_eq_true rfl | exact Nat.zero_le _, by first | exact Nat.le_of_ble_eq_true rfl | exact Nat.zero_le _⟩ gX12_bodyFrom_0.2.2.2.2.2.2.2.1 (Keqr ?_)
  refine lv_istore (lv' := [(4, .int 0), (0, .ref h0), (1, .int 6), (2, .int 1), (3, .int xx)]) hx hb gX12_bodyFrom_0.2.2.2.2.2.2.2.2.1 hl (by decide) rfl (fun ls hl => ?_)
  refine lv_goto (tgt := 3) hx hb gX12_bodyFrom_0.2.2.2.2.2.2.2.2.2 (by decide) ?_
  refine lv_iload hx hb gX12_bodyFrom_0.2.2.1 (lv_at0 hl) ?_
  refine lv_iload_n hx hb gX12_bodyFrom_0.2.2.2.1 rfl (lv_at3 hl) ?_
  refine pS hC hK hl (m_hasOwn01 l G) si_X12_360 rfl rfl (Nat.le_of_ble_eq_true rfl) rm_24_1_2 ⟨by first | exact Nat.le_of_ble_eq_true rfl | exact Nat.zero_le _, by first | exact Nat.le_of_ble_eq_true rfl | exact Nat.zero_le _⟩ gX12_bodyFrom_0.2.2.2.2.1 (Keqr ?_)
  refine lv_if_ne (tgt := 22) hx hb gX12_bodyFrom_0.2.2.2.2.2.1 (by decide) (fun _ => ?_) (fun c9 => absurd c9 (by decide))
  refine lv_aload_n hx hb gX12_bodyFrom_1.1 rfl (lv_at1 hl) ?_
  refine lv_iload hx hb gX12_bodyFrom_1.2.1 (lv_at0 hl) ?_
  refine lv_iload_n hx hb gX12_bodyFrom_1.2.2.1 rfl (lv_at3 hl) ?_
  refine lv_iload_n hx hb gX12_bodyFrom_1.2.2.2.1 rfl (lv_at4 hl) ?_
  refine iV (wr := []) hC hK hl hP hD hS hA (m_body01 l G h0 xx nw nk mhasKept nt mtaped nr mrowMany mroundOf mroundFrom mouts nm mfromHour mtoHour ns mfrom mto msort misFault mdeep mcoded mlines nl nc nF np ntr nb mbestCost nso nsi nit nsh nsf nss nrc jr jd mnumber mwhose msize misParted fnrc (hjr) (hjd)) si_X12_363 [0, 1] [] sm_0_1 fm_0_1 nd_0_1 rfl rfl (by decide) rfl rfl rfl rfl rfl (Nat.le_of_ble_eq_true rfl) rm_24_15_6 ⟨Nat.le_of_ble_eq_true rfl, Nat.le_of_ble_eq_true rfl⟩ gX12_bodyFrom_1.2.2.2.2.1 (fun r5838 => Ktu3 fun jr15840 ip15841 gtrc5842 => ?_)
  intro H locs hr5838 hP hD hS
  try dsimp only at hr5838
  refine Kpdr (ws := [(h0, oX12 nw nk mhasKept nt mtaped nr mrowMany mroundOf mroundFrom mouts nm mfromHour mtoHour ns mfrom mto msort misFault mdeep mcoded mlines nl nc nF np ntr nb mbestCost nso nsi nit nsh nsf nss nrc (nI jr15840) (nI jd) mnumber mwhose msize ip15841), (nrc, iA G 30 gtrc5842)]) hP hD (fun hP hD => ?_)
  obtain ⟨hr5838, w5843⟩ := hr5838
  refine toQ hQ0 ?_
  exact RI (v := r5838) hC hP hD hS [0, 1] (jr15840, ip15841, gtrc5842) rfl rfl (by decide) (⟨trivial, by omega⟩) rfl gX12_bodyFrom_1.2.2.2.2.2
def K_m_dealt1 (l : Launch) (G : GG) (h0 : Nat) (xx : Int32) (nw : Nat) (nk : Nat) (mhasKept : Int32) (nt : Nat) (mtaped : Int32) (nr : Nat) (mrowMany : Int32) (mroundOf : Int32) (mroundFrom : Int32) (mouts : Int32) (nm : Nat) (mfromHour : Int32) (mtoHour : Int32) (ns : Nat) (mfrom : Int32) (mto : Int32) (msort : Int32) (misFault : Int32) (mdeep : Int32) (mcoded : Int32) (mlines : Int32) (nl : Nat) (nc : Nat) (nF : Nat) (np : Nat) (ntr : Nat) (nb : Nat) (mbestCost : Int32) (nso : Nat) (nsi : Nat) (nit : Nat) (nsh : Nat) (nsf : Nat) (nss : Nat) (nrc : Nat) (jr : Nat) (jd : Nat) (mnumber : Int32) (mwhose : Int32) (msize : Int32) (misParted : Int32) (fnrc : Nat → Int32) : Prop := MI l G yX12_dealt cX12_dealt 3 (some .int) 26 0 0 [.ref h0, .int 1, .int xx] [(h0, oX12 nw nk mhasKept nt mtaped nr mrowMany mroundOf mroundFrom mouts nm mfromHour mtoHour ns mfrom mto msort misFault mdeep mcoded mlines nl nc nF np ntr nb mbestCost nso nsi nit nsh nsf nss nrc (nI jr) (nI jd) mnumber mwhose msize misParted), (nrc, iA G 30 fnrc)] (fun (r : Int32) (u : Nat × Int32 × (Nat → Int32)) => (True) ∧ (u.1 ≤ 30)) (fun u : Nat × Int32 × (Nat → Int32) => [(h0, oX12 nw nk mhasKept nt mtaped nr mrowMany mroundOf mroundFrom mouts nm mfromHour mtoHour ns mfrom mto msort misFault mdeep mcoded mlines nl nc nF np ntr nb mbestCost nso nsi nit nsh nsf nss nrc (nI u.1) (nI jd) mnumber mwhose msize u.2.1), (nrc, iA G 30 u.2.2)])
set_option maxHeartbeats 4000000 in
set_option maxRecDepth 100000 in
theorem m_dealt1 (l : Launch) (G : GG) (h0 : Nat) (xx : Int32) (nw : Nat) (nk : Nat) (mhasKept : Int32) (nt : Nat) (mtaped : Int32) (nr : Nat) (mrowMany : Int32) (mroundOf : Int32) (mroundFrom : Int32) (mouts : Int32) (nm : Nat) (mfromHour : Int32) (mtoHour : Int32) (ns : Nat) (mfrom : Int32) (mto : Int32) (msort : Int32) (misFault : Int32) (mdeep : Int32) (mcoded : Int32) (mlines : Int32) (nl : Nat) (nc : Nat) (nF : Nat) (np : Nat) (ntr : Nat) (nb : Nat) (mbestCost : Int32) (nso : Nat) (nsi : Nat) (nit : Nat) (nsh : Nat) (nsf : Nat) (nss : Nat) (nrc : Nat) (jr : Nat) (jd : Nat) (mnumber : Int32) (mwhose : Int32) (msize : Int32) (misParted : Int32) (fnrc : Nat → Int32) (hjr : jr ≤ 30) (hjd : jd < 7) : K_m_dealt1 l G h0 xx nw nk mhasKept nt mtaped nr mrowMany mroundOf mroundFrom mouts nm mfromHour mtoHour ns mfrom mto msort misFault mdeep mcoded mlines nl nc nF np ntr nb mbestCost nso nsi nit nsh nsf nss nrc jr jd mnumber mwhose msize misParted fnrc := by
  refine MI.start (by decide +kernel) (Nat.le_of_ble_eq_true rfl) ?_
  intro p e s m below meth c A ls hC hK hP hD hS hA hl
  refine absQ (fun Q0 hQ0 => ?_)
  have hl : lv_has ls 3 [(0, .ref h0), (1, .int 1), (2, .int xx)] := hl
  refine Kan8 hC (fun hx hb hr hml hB hown hlocks hnm => ?_)
  refine lv_aload_n hx hb gX12_dealt_0.1 rfl (lv_at0 hl) ?_
  refine lv_aload_n hx hb gX12_dealt_0.2.1 rfl (lv_at0 hl) ?_
  refine gf_X12_354 hC rfl hK hP 0 rfl rfl gX12_dealt_0.2.2.1 ?_
  refine lv_iload_n hx hb gX12_dealt_0.2.2.2.1 rfl (lv_at1 hl) ?_
  refine lv_iload_n hx hb gX12_dealt_0.2.2.2.2.1 rfl (lv_at2 hl) ?_
  rcases (show jd = 0 ∨ jd = 1 ∨ jd = 2 ∨ jd = 3 ∨ jd = 4 ∨ jd = 5 ∨ jd = 6 by omega) with rfl | rfl | rfl | rfl | rfl | rfl | rfl
  · refine iV (wr := []) hC hK hl hP hD hS hA (m_from01 l G h0 xx nw nk mhasKept nt mtaped nr mrowMany mroundOf mroundFrom mouts nm mfromHour mtoHour ns mfrom mto msort misFault mdeep mcoded mlines nl nc nF np ntr nb mbestCost nso nsi nit nsh nsf nss nrc jr 0 mnumber mwhose msize misParted fnrc (hjr) (hjd)) si_X12_357 [0, 1] [] sm_0_1 fm_0_1 nd_0_1 rfl rfl (by decide) rfl rfl rfl rfl rfl (Nat.le_of_ble_eq_true rfl) rm_26_16_5 ⟨Nat.le_of_ble_eq_true rfl, Nat.le_of_ble_eq_true rfl⟩ gX12_dealt_0.2.2.2.2.2.1 (fun r5844 => Ktu3 fun jr15846 ip15847 gtrc5848 => ?_)
    intro H locs hr5844 hP hD hS
    try dsimp only at hr5844
    refine Kpdr (ws := [(h0, oX12 nw nk mhasKept nt mtaped nr mrowMany mroundOf mroundFrom mouts nm mfromHour mtoHour ns mfrom mto msort misFault mdeep mcoded mlines nl nc nF np ntr nb mbestCost nso nsi nit nsh nsf nss nrc (nI jr15846) 0 mnumber mwhose msize ip15847), (nrc, iA G 30 gtrc5848)]) hP hD (fun hP hD => ?_)
    obtain ⟨hr5844, w5849⟩ := hr5844
    refine toQ hQ0 ?_
    exact RI (v := r5844) hC hP hD hS [0, 1] (jr15846, ip15847, gtrc5848) rfl rfl (by decide) (⟨trivial, by omega⟩) rfl gX12_dealt_0.2.2.2.2.2.2
  · refine iV (wr := []) hC hK hl hP hD hS hA (m_from11 l G h0 xx nw nk mhasKept nt mtaped nr mrowMany mroundOf mroundFrom mouts nm mfromHour mtoHour ns mfrom mto msort misFault mdeep mcoded mlines nl nc nF np ntr nb mbestCost nso nsi nit nsh nsf nss nrc jr 1 mnumber mwhose msize misParted fnrc (hjr) (hjd)) si_X12_357 [0, 1] [] sm_0_1 fm_0_1 nd_0_1 rfl rfl (by decide) rfl rfl rfl rfl rfl (Nat.le_of_ble_eq_true rfl) rm_26_18_5 ⟨Nat.le_of_ble_eq_true rfl, Nat.le_of_ble_eq_true rfl⟩ gX12_dealt_0.2.2.2.2.2.1 (fun r5850 => Ktu3 fun jr15852 ip15853 gtrc5854 => ?_)
    intro H locs hr5850 hP hD hS
    try dsimp only at hr5850
    refine Kpdr (ws := [(h0, oX12 nw nk mhasKept nt mtaped nr mrowMany mroundOf mroundFrom mouts nm mfromHour mtoHour ns mfrom mto msort misFault mdeep mcoded mlines nl nc nF np ntr nb mbestCost nso nsi nit nsh nsf nss nrc (nI jr15852) 1 mnumber mwhose msize ip15853), (nrc, iA G 30 gtrc5854)]) hP hD (fun hP hD => ?_)
    obtain ⟨hr5850, w5855⟩ := hr5850
    refine toQ hQ0 ?_
    exact RI (v := r5850) hC hP hD hS [0, 1] (jr15852, ip15853, gtrc5854) rfl rfl (by decide) (⟨trivial, by omega⟩) rfl gX12_dealt_0.2.2.2.2.2.2
  · refine iV (wr := []) hC hK hl hP hD hS hA (m_from21 l G h0 xx nw nk mhasKept nt mtaped nr mrowMany mroundOf mroundFrom mouts nm mfromHour mtoHour ns mfrom mto msort misFault mdeep mcoded mlines nl nc nF np ntr nb mbestCost nso nsi nit nsh nsf nss nrc jr 2 mnumber mwhose msize misParted fnrc (hjr) (hjd)) si_X12_357 [0, 1] [] sm_0_1 fm_0_1 nd_0_1 rfl rfl (by decide) rfl rfl rfl rfl rfl (Nat.le_of_ble_eq_true rfl) rm_26_24_5 ⟨Nat.le_of_ble_eq_true rfl, Nat.le_of_ble_eq_true rfl⟩ gX12_dealt_0.2.2.2.2.2.1 (fun r5856 => Ktu3 fun jr15858 ip15859 gtrc5860 => ?_)
    intro H locs hr5856 hP hD hS
    try dsimp only at hr5856
    refine Kpdr (ws := [(h0, oX12 nw nk mhasKept nt mtaped nr mrowMany mroundOf mroundFrom mouts nm mfromHour mtoHour ns mfrom mto msort misFault mdeep mcoded mlines nl nc nF np ntr nb mbestCost nso nsi nit nsh nsf nss nrc (nI jr15858) 2 mnumber mwhose msize ip15859), (nrc, iA G 30 gtrc5860)]) hP hD (fun hP hD => ?_)
    obtain ⟨hr5856, w5861⟩ := hr5856
    refine toQ hQ0 ?_
    exact RI (v := r5856) hC hP hD hS [0, 1] (jr15858, ip15859, gtrc5860) rfl rfl (by decide) (⟨trivial, by omega⟩) rfl gX12_dealt_0.2.2.2.2.2.2
  · refine iV (wr := []) hC hK hl hP hD hS hA (m_from31 l G h0 xx nw nk mhasKept nt mtaped nr mrowMany mroundOf mroundFrom mouts nm mfromHour mtoHour ns mfrom mto msort misFault mdeep mcoded mlines nl nc nF np ntr nb mbestCost nso nsi nit nsh nsf nss nrc jr 3 mnumber mwhose msize misParted fnrc (hjr) (hjd)) si_X12_357 [0, 1] [] sm_0_1 fm_0_1 nd_0_1 rfl rfl (by decide) rfl rfl rfl rfl rfl (Nat.le_of_ble_eq_true rfl) rm_26_20_5 ⟨Nat.le_of_ble_eq_true rfl, Nat.le_of_ble_eq_true rfl⟩ gX12_dealt_0.2.2.2.2.2.1 (fun r5862 => Ktu3 fun jr15864 ip15865 gtrc5866 => ?_)
    intro H locs hr5862 hP hD hS
    try dsimp only at hr5862
    refine Kpdr (ws := [(h0, oX12 nw nk mhasKept nt mtaped nr mrowMany mroundOf mroundFrom mouts nm mfromHour mtoHour ns mfrom mto msort misFault mdeep mcoded mlines nl nc nF np ntr nb mbestCost nso nsi nit nsh nsf nss nrc (nI jr15864) 3 mnumber mwhose msize ip15865), (nrc, iA G 30 gtrc5866)]) hP hD (fun hP hD => ?_)
    obtain ⟨hr5862, w5867⟩ := hr5862
    refine toQ hQ0 ?_
    exact RI (v := r5862) hC hP hD hS [0, 1] (jr15864, ip15865, gtrc5866) rfl rfl (by decide) (⟨trivial, by omega⟩) rfl gX12_dealt_0.2.2.2.2.2.2
  · refine iV (wr := []) hC hK hl hP hD hS hA (m_from41 l G h0 xx nw nk mhasKept nt mtaped nr mrowMany mroundOf mroundFrom mouts nm mfromHour mtoHour ns mfrom mto msort misFault mdeep mcoded mlines nl nc nF np ntr nb mbestCost nso nsi nit nsh nsf nss nrc jr 4 mnumber mwhose msize misParted fnrc (hjr) (hjd)) si_X12_357 [0, 1] [] sm_0_1 fm_0_1 nd_0_1 rfl rfl (by decide) rfl rfl rfl rfl rfl (Nat.le_of_ble_eq_true rfl) rm_26_24_5 ⟨Nat.le_of_ble_eq_true rfl, Nat.le_of_ble_eq_true rfl⟩ gX12_dealt_0.2.2.2.2.2.1 (fun r5868 => Ktu3 fun jr15870 ip15871 gtrc5872 => ?_)
    intro H locs hr5868 hP hD hS
    try dsimp only at hr5868
    refine Kpdr (ws := [(h0, oX12 nw nk mhasKept nt mtaped nr mrowMany mroundOf mroundFrom mouts nm mfromHour mtoHour ns mfrom mto msort misFault mdeep mcoded mlines nl nc nF np ntr nb mbestCost nso nsi nit nsh nsf nss nrc (nI jr15870) 4 mnumber mwhose msize ip15871), (nrc, iA G 30 gtrc5872)]) hP hD (fun hP hD => ?_)
    obtain ⟨hr5868, w5873⟩ := hr5868
    refine toQ hQ0 ?_
    exact RI (v := r5868) hC hP hD hS [0, 1] (jr15870, ip15871, gtrc5872) rfl rfl (by decide) (⟨trivial, by omega⟩) rfl gX12_dealt_0.2.2.2.2.2.2
  · refine iV (wr := []) hC hK hl hP hD hS hA (m_from51 l G h0 xx nw nk mhasKept nt mtaped nr mrowMany mroundOf mroundFrom mouts nm mfromHour mtoHour ns mfrom mto msort misFault mdeep mcoded mlines nl nc nF np ntr nb mbestCost nso nsi nit nsh nsf nss nrc jr 5 mnumber mwhose msize misParted fnrc (hjr) (hjd)) si_X12_357 [0, 1] [] sm_0_1 fm_0_1 nd_0_1 rfl rfl (by decide) rfl rfl rfl rfl rfl (Nat.le_of_ble_eq_true rfl) rm_26_24_5 ⟨Nat.le_of_ble_eq_true rfl, Nat.le_of_ble_eq_true rfl⟩ gX12_dealt_0.2.2.2.2.2.1 (fun r5874 => Ktu3 fun jr15876 ip15877 gtrc5878 => ?_)
    intro H locs hr5874 hP hD hS
    try dsimp only at hr5874
    refine Kpdr (ws := [(h0, oX12 nw nk mhasKept nt mtaped nr mrowMany mroundOf mroundFrom mouts nm mfromHour mtoHour ns mfrom mto msort misFault mdeep mcoded mlines nl nc nF np ntr nb mbestCost nso nsi nit nsh nsf nss nrc (nI jr15876) 5 mnumber mwhose msize ip15877), (nrc, iA G 30 gtrc5878)]) hP hD (fun hP hD => ?_)
    obtain ⟨hr5874, w5879⟩ := hr5874
    refine toQ hQ0 ?_
    exact RI (v := r5874) hC hP hD hS [0, 1] (jr15876, ip15877, gtrc5878) rfl rfl (by decide) (⟨trivial, by omega⟩) rfl gX12_dealt_0.2.2.2.2.2.2
  · refine iV (wr := []) hC hK hl hP hD hS hA (m_from61 l G h0 xx nw nk mhasKept nt mtaped nr mrowMany mroundOf mroundFrom mouts nm mfromHour mtoHour ns mfrom mto msort misFault mdeep mcoded mlines nl nc nF np ntr nb mbestCost nso nsi nit nsh nsf nss nrc jr 6 mnumber mwhose msize misParted fnrc (hjr) (hjd)) si_X12_357 [0, 1] [] sm_0_1 fm_0_1 nd_0_1 rfl rfl (by decide) rfl rfl rfl rfl rfl (Nat.le_of_ble_eq_true rfl) rm_26_24_5 ⟨Nat.le_of_ble_eq_true rfl, Nat.le_of_ble_eq_true rfl⟩ gX12_dealt_0.2.2.2.2.2.1 (fun r5880 => Ktu3 fun jr15882 ip15883 gtrc5884 => ?_)
    intro H locs hr5880 hP hD hS
    try dsimp only at hr5880
    refine Kpdr (ws := [(h0, oX12 nw nk mhasKept nt mtaped nr mrowMany mroundOf mroundFrom mouts nm mfromHour mtoHour ns mfrom mto msort misFault mdeep mcoded mlines nl nc nF np ntr nb mbestCost nso nsi nit nsh nsf nss nrc (nI jr15882) 6 mnumber mwhose msize ip15883), (nrc, iA G 30 gtrc5884)]) hP hD (fun hP hD => ?_)
    obtain ⟨hr5880, w5885⟩ := hr5880
    refine toQ hQ0 ?_
    exact RI (v := r5880) hC hP hD hS [0, 1] (jr15882, ip15883, gtrc5884) rfl rfl (by decide) (⟨trivial, by omega⟩) rfl gX12_dealt_0.2.2.2.2.2.2
def K_m_body02 (l : Launch) (G : GG) (h0 : Nat) (xx : Int32) (nw : Nat) (nk : Nat) (mhasKept : Int32) (nt : Nat) (mtaped : Int32) (nr : Nat) (mrowMany : Int32) (mroundOf : Int32) (mroundFrom : Int32) (mouts : Int32) (nm : Nat) (mfromHour : Int32) (mtoHour : Int32) (ns : Nat) (mfrom : Int32) (mto : Int32) (msort : Int32) (misFault : Int32) (mdeep : Int32) (mcoded : Int32) (mlines : Int32) (nl : Nat) (nc : Nat) (nF : Nat) (np : Nat) (ntr : Nat) (nb : Nat) (mbestCost : Int32) (nso : Nat) (nsi : Nat) (nit : Nat) (nsh : Nat) (nsf : Nat) (nss : Nat) (nrc : Nat) (jr : Nat) (jd : Nat) (mnumber : Int32) (mwhose : Int32) (msize : Int32) (misParted : Int32) (fnrc : Nat → Int32) : Prop := MI l G yX12_body cX12_body 6 (some .int) 27 0 0 [.ref h0, .int 0, .int 2, .int xx] [(h0, oX12 nw nk mhasKept nt mtaped nr mrowMany mroundOf mroundFrom mouts nm mfromHour mtoHour ns mfrom mto msort misFault mdeep mcoded mlines nl nc nF np ntr nb mbestCost nso nsi nit nsh nsf nss nrc (nI jr) (nI jd) mnumber mwhose msize misParted), (nrc, iA G 30 fnrc)] (fun (r : Int32) (u : Nat × Int32 × (Nat → Int32)) => (True) ∧ (u.1 ≤ 30)) (fun u : Nat × Int32 × (Nat → Int32) => [(h0, oX12 nw nk mhasKept nt mtaped nr mrowMany mroundOf mroundFrom mouts nm mfromHour mtoHour ns mfrom mto msort misFault mdeep mcoded mlines nl nc nF np ntr nb mbestCost nso nsi nit nsh nsf nss nrc (nI u.1) (nI jd) mnumber mwhose msize u.2.1), (nrc, iA G 30 u.2.2)])
set_option maxHeartbeats 4000000 in
set_option maxRecDepth 100000 in
theorem m_body02 (l : Launch) (G : GG) (h0 : Nat) (xx : Int32) (nw : Nat) (nk : Nat) (mhasKept : Int32) (nt : Nat) (mtaped : Int32) (nr : Nat) (mrowMany : Int32) (mroundOf : Int32) (mroundFrom : Int32) (mouts : Int32) (nm : Nat) (mfromHour : Int32) (mtoHour : Int32) (ns : Nat) (mfrom : Int32) (mto : Int32) (msort : Int32) (misFault : Int32) (mdeep : Int32) (mcoded : Int32) (mlines : Int32) (nl : Nat) (nc : Nat) (nF : Nat) (np : Nat) (ntr : Nat) (nb : Nat) (mbestCost : Int32) (nso : Nat) (nsi : Nat) (nit : Nat) (nsh : Nat) (nsf : Nat) (nss : Nat) (nrc : Nat) (jr : Nat) (jd : Nat) (mnumber : Int32) (mwhose : Int32) (msize : Int32) (misParted : Int32) (fnrc : Nat → Int32) (hjr : jr ≤ 30) (hjd : jd < 7) : K_m_body02 l G h0 xx nw nk mhasKept nt mtaped nr mrowMany mroundOf mroundFrom mouts nm mfromHour mtoHour ns mfrom mto msort misFault mdeep mcoded mlines nl nc nF np ntr nb mbestCost nso nsi nit nsh nsf nss nrc jr jd mnumber mwhose msize misParted fnrc := by
  refine MI.start (by decide +kernel) (Nat.le_of_ble_eq_true rfl) ?_
  intro p e s m below meth c A ls hC hK hP hD hS hA hl
  refine absQ (fun Q0 hQ0 => ?_)
  have hl : lv_has ls 6 [(0, .ref h0), (1, .int 0), (2, .int 2), (3, .int xx)] := hl
  refine Kan8 hC (fun hx hb hr hml hB hown hlocks hnm => ?_)
  refine lv_iconst (v := 4) hx hb gX12_body_0.1 (by decide) ?_
  refine lv_iload_n hx hb gX12_body_0.2.1 rfl (lv_at1 hl) ?_
  refine lv_imul hx hb gX12_body_0.2.2.1 ?_
  refine eqi (x1 := 0) (by decide) ?_
  refine lv_iload_n hx hb gX12_body_0.2.2.2.1 rfl (lv_at2 hl) ?_
  refine lv_iadd hx hb gX12_body_0.2.2.2.2.1 ?_
  refine eqi (x1 := 2) (by decide) ?_
  refine lv_tableIn (tgt := 140) hx hb gX12_body_0.2.2.2.2.2.1 (by decide) (by decide) rfl (by decide) ?_
  refine lv_aload_n hx hb gX12_body_2.2.2.2.2.1 rfl (lv_at0 hl) ?_
  refine lv_bipush (v := 12) hx hb gX12_body_2.2.2.2.2.2.1 (by decide) ?_
  refine vV (wr := []) hC hK hl hP hD hS hA (m_began l G h0 12 nw nk mhasKept nt mtaped nr mrowMany mroundOf mroundFrom mouts nm mfromHour mtoHour ns mfrom mto msort misFault mdeep mcoded mlines nl nc nF np ntr nb mbestCost nso nsi nit nsh nsf nss nrc jr (nI jd) mnumber mwhose msize misParted fnrc (hjr)) si_X12_366 [0, 1] [] sm_0_1 fm_0_1 nd_0_1 rfl rfl (by decide) rfl rfl rfl rfl rfl (Nat.le_of_ble_eq_true rfl) rm_27_1_2 ⟨Nat.le_of_ble_eq_true rfl, Nat.le_of_ble_eq_true rfl⟩ gX12_body_2.2.2.2.2.2.2.1 (Ktu2 fun jr15888 gtrc5889 => ?_)
  intro H locs hr5886 hP hD hS
  try dsimp only at hr5886
  refine Kpdr (ws := [(h0, oX12 nw nk mhasKept nt mtaped nr mrowMany mroundOf mroundFrom mouts nm mfromHour mtoHour ns mfrom mto msort misFault mdeep mcoded mlines nl nc nF np ntr nb mbestCost nso nsi nit nsh nsf nss nrc (nI jr15888) (nI jd) mnumber mwhose msize misParted), (nrc, iA G 30 gtrc5889)]) hP hD (fun hP hD => ?_)
  have w5890 := hr5886
  refine lv_aload_n hx hb gX12_body_2.2.2.2.2.2.2.2.1 rfl (lv_at0 hl) ?_
  refine lv_iconst (v := 1) hx hb gX12_body_2.2.2.2.2.2.2.2.2.1 (by decide) ?_
  refine lv_iload_n hx hb gX12_body_2.2.2.2.2.2.2.2.2.2 rfl (lv_at3 hl) ?_
  refine iV (wr := []) hC hK hl hP hD hS hA (m_dealt1 l G h0 xx nw nk mhasKept nt mtaped nr mrowMany mroundOf mroundFrom mouts nm mfromHour mtoHour ns mfrom mto msort misFault mdeep mcoded mlines nl nc nF np ntr nb mbestCost nso nsi nit nsh nsf nss nrc jr15888 jd mnumber mwhose msize misParted gtrc5889 (w5890) (hjd)) si_X12_372 [0, 1] [] sm_0_1 fm_0_1 nd_0_1 rfl rfl (by decide) rfl rfl rfl rfl rfl (Nat.le_of_ble_eq_true rfl) rm_27_26_3 ⟨Nat.le_of_ble_eq_true rfl, Nat.le_of_ble_eq_true rfl⟩ gX12_body_3.1 (fun r5891 => Ktu3 fun jr15893 ip15894 gtrc5895 => ?_)
  intro H locs hr5891 hP hD hS
  try dsimp only at hr5891
  refine Kpdr (ws := [(h0, oX12 nw nk mhasKept nt mtaped nr mrowMany mroundOf mroundFrom mouts nm mfromHour mtoHour ns mfrom mto msort misFault mdeep mcoded mlines nl nc nF np ntr nb mbestCost nso nsi nit nsh nsf nss nrc (nI jr15893) (nI jd) mnumber mwhose msize ip15894), (nrc, iA G 30 gtrc5895)]) hP hD (fun hP hD => ?_)
  obtain ⟨hr5891, w5896⟩ := hr5891
  refine lv_aload_n hx hb gX12_body_3.2.1 rfl (lv_at0 hl) ?_
  refine gf_X12_375 hC rfl hK hP 0 rfl rfl gX12_body_3.2.2.1 ?_
  refine lv_isub hx hb gX12_body_3.2.2.2.1 ?_
  refine toQ hQ0 ?_
  exact RI (v := r5891 - mwhose) hC hP hD hS [0, 1] (jr15893, ip15894, gtrc5895) rfl rfl (by decide) (⟨trivial, by omega⟩) rfl gX12_body_3.2.2.2.2.1
def K_m_from02 (l : Launch) (G : GG) (h0 : Nat) (xx : Int32) (nw : Nat) (nk : Nat) (mhasKept : Int32) (nt : Nat) (mtaped : Int32) (nr : Nat) (mrowMany : Int32) (mroundOf : Int32) (mroundFrom : Int32) (mouts : Int32) (nm : Nat) (mfromHour : Int32) (mtoHour : Int32) (ns : Nat) (mfrom : Int32) (mto : Int32) (msort : Int32) (misFault : Int32) (mdeep : Int32) (mcoded : Int32) (mlines : Int32) (nl : Nat) (nc : Nat) (nF : Nat) (np : Nat) (ntr : Nat) (nb : Nat) (mbestCost : Int32) (nso : Nat) (nsi : Nat) (nit : Nat) (nsh : Nat) (nsf : Nat) (nss : Nat) (nrc : Nat) (jr : Nat) (jd : Nat) (mnumber : Int32) (mwhose : Int32) (msize : Int32) (misParted : Int32) (fnrc : Nat → Int32) : Prop := MI l G yX12_bodyFrom cX12_bodyFrom 5 (some .int) 28 0 0 [.ref h0, .int 0, .int 2, .int xx] [(h0, oX12 nw nk mhasKept nt mtaped nr mrowMany mroundOf mroundFrom mouts nm mfromHour mtoHour ns mfrom mto msort misFault mdeep mcoded mlines nl nc nF np ntr nb mbestCost nso nsi nit nsh nsf nss nrc (nI jr) (nI jd) mnumber mwhose msize misParted), (nrc, iA G 30 fnrc)] (fun (r : Int32) (u : Nat × Int32 × (Nat → Int32)) => (True) ∧ (u.1 ≤ 30)) (fun u : Nat × Int32 × (Nat → Int32) => [(h0, oX12 nw nk mhasKept nt mtaped nr mrowMany mroundOf mroundFrom mouts nm mfromHour mtoHour ns mfrom mto msort misFault mdeep mcoded mlines nl nc nF np ntr nb mbestCost nso nsi nit nsh nsf nss nrc (nI u.1) (nI jd) mnumber mwhose msize u.2.1), (nrc, iA G 30 u.2.2)])
set_option maxHeartbeats 4000000 in
set_option maxRecDepth 100000 in
theorem m_from02 (l : Launch) (G : GG) (h0 : Nat) (xx : Int32) (nw : Nat) (nk : Nat) (mhasKept : Int32) (nt : Nat) (mtaped : Int32) (nr : Nat) (mrowMany : Int32) (mroundOf : Int32) (mroundFrom : Int32) (mouts : Int32) (nm : Nat) (mfromHour : Int32) (mtoHour : Int32) (ns : Nat) (mfrom : Int32) (mto : Int32) (msort : Int32) (misFault : Int32) (mdeep : Int32) (mcoded : Int32) (mlines : Int32) (nl : Nat) (nc : Nat) (nF : Nat) (np : Nat) (ntr : Nat) (nb : Nat) (mbestCost : Int32) (nso : Nat) (nsi : Nat) (nit : Nat) (nsh : Nat) (nsf : Nat) (nss : Nat) (nrc : Nat) (jr : Nat) (jd : Nat) (mnumber : Int32) (mwhose : Int32) (msize : Int32) (misParted : Int32) (fnrc : Nat → Int32) (hjr : jr ≤ 30) (hjd : jd < 7) : K_m_from02 l G h0 xx nw nk mhasKept nt mtaped nr mrowMany mroundOf mroundFrom mouts nm mfromHour mtoHour ns mfrom mto msort misFault mdeep mcoded mlines nl nc nF np ntr nb mbestCost nso nsi nit nsh nsf nss nrc jr jd mnumber mwhose msize misParted fnrc := by
  refine MI.start (by decide +kernel) (Nat.le_of_ble_eq_true rfl) ?_
  intro p e s m below meth c A ls hC hK hP hD hS hA hl
  refine absQ (fun Q0 hQ0 => ?_)
  have hl : lv_has ls 5 [(0, .ref h0), (1, .int 0), (2, .int 2), (3, .int xx)] := hl
  refine Kan8 hC (fun hx hb hr hml hB hown hlocks hnm => ?_)
  refine lv_iload_n hx hb gX12_bodyFrom_0.1 rfl (lv_at1 hl) ?_
  refine lv_istore (lv' := [(4, .int 0), (0, .ref h0), (1, .int 0), (2, .int 2), (3, .int xx)]) hx hb gX12_bodyFrom_0.2.1 hl (by decide) rfl (fun ls hl => ?_)
  refine lv_iload hx hb gX12_bodyFrom_0.2.2.1 (lv_at0 hl) ?_
  refine lv_iload_n hx hb gX12_bodyFrom_0.2.2.2.1 rfl (lv_at3 hl) ?_
  refine pS hC hK hl (m_hasOwn02 l G) si_X12_360 rfl rfl (Nat.le_of_ble_eq_true rfl) rm_28_1_2 ⟨by first | exact Nat.le_of_ble_eq_true rfl | exact Nat.zero_le _, by first | exact Nat.le_of_ble_eq_true rfl | exact Nat.zero_le _⟩ gX12_bodyFrom_0.2.2.2.2.1 (Keqr ?_)
  refine lv_if_ne (tgt := 22) hx hb gX12_bodyFrom_0.2.2.2.2.2.1 (by decide) (fun _ => ?_) (fun c9 => absurd c9 (by decide))
  refine lv_aload_n hx hb gX12_bodyFrom_1.1 rfl (lv_at1 hl) ?_
  refine lv_iload hx hb gX12_bodyFrom_1.2.1 (lv_at0 hl) ?_
  refine lv_iload_n hx hb gX12_bodyFrom_1.2.2.1 rfl (lv_at3 hl) ?_
  refine lv_iload_n hx hb gX12_bodyFrom_1.2.2.2.1 rfl (lv_at4 hl) ?_
  refine iV (wr := []) hC hK hl hP hD hS hA (m_body02 l G h0 xx nw nk mhasKept nt mtaped nr mrowMany mroundOf mroundFrom mouts nm mfromHour mtoHour ns mfrom mto msort misFault mdeep mcoded mlines nl nc nF np ntr nb mbestCost nso nsi nit nsh nsf nss nrc jr jd mnumber mwhose msize misParted fnrc (hjr) (hjd)) si_X12_363 [0, 1] [] sm_0_1 fm_0_1 nd_0_1 rfl rfl (by decide) rfl rfl rfl rfl rfl (Nat.le_of_ble_eq_true rfl) rm_28_27_6 ⟨Nat.le_of_ble_eq_true rfl, Nat.le_of_ble_eq_true rfl⟩ gX12_bodyFrom_1.2.2.2.2.1 (fun r5899 => Ktu3 fun jr15901 ip15902 gtrc5903 => ?_)
  intro H locs hr5899 hP hD hS
  try dsimp only at hr5899
  refine Kpdr (ws := [(h0, oX12 nw nk mhasKept nt mtaped nr mrowMany mroundOf mroundFrom mouts nm mfromHour mtoHour ns mfrom mto msort misFault mdeep mcoded mlines nl nc nF np ntr nb mbestCost nso nsi nit nsh nsf nss nrc (nI jr15901) (nI jd) mnumber mwhose msize ip15902), (nrc, iA G 30 gtrc5903)]) hP hD (fun hP hD => ?_)
  obtain ⟨hr5899, w5904⟩ := hr5899
  refine toQ hQ0 ?_
  exact RI (v := r5899) hC hP hD hS [0, 1] (jr15901, ip15902, gtrc5903) rfl rfl (by decide) (⟨trivial, by omega⟩) rfl gX12_bodyFrom_1.2.2.2.2.2
def K_m_body22 (l : Launch) (G : GG) (h0 : Nat) (xx : Int32) (nw : Nat) (nk : Nat) (mhasKept : Int32) (nt : Nat) (mtaped : Int32) (nr : Nat) (mrowMany : Int32) (mroundOf : Int32) (mroundFrom : Int32) (mouts : Int32) (nm : Nat) (mfromHour : Int32) (mtoHour : Int32) (ns : Nat) (mfrom : Int32) (mto : Int32) (msort : Int32) (misFault : Int32) (mdeep : Int32) (mcoded : Int32) (mlines : Int32) (nl : Nat) (nc : Nat) (nF : Nat) (np : Nat) (ntr : Nat) (nb : Nat) (mbestCost : Int32) (nso : Nat) (nsi : Nat) (nit : Nat) (nsh : Nat) (nsf : Nat) (nss : Nat) (nrc : Nat) (jr : Nat) (jd : Nat) (mnumber : Int32) (mwhose : Int32) (msize : Int32) (misParted : Int32) (fnrc : Nat → Int32) : Prop := MI l G yX12_body cX12_body 6 (some .int) 29 0 0 [.ref h0, .int 2, .int 2, .int xx] [(h0, oX12 nw nk mhasKept nt mtaped nr mrowMany mroundOf mroundFrom mouts nm mfromHour mtoHour ns mfrom mto msort misFault mdeep mcoded mlines nl nc nF np ntr nb mbestCost nso nsi nit nsh nsf nss nrc (nI jr) (nI jd) mnumber mwhose msize misParted), (nrc, iA G 30 fnrc)] (fun (r : Int32) (u : Nat × Int32 × (Nat → Int32)) => (True) ∧ (u.1 ≤ 30)) (fun u : Nat × Int32 × (Nat → Int32) => [(h0, oX12 nw nk mhasKept nt mtaped nr mrowMany mroundOf mroundFrom mouts nm mfromHour mtoHour ns mfrom mto msort misFault mdeep mcoded mlines nl nc nF np ntr nb mbestCost nso nsi nit nsh nsf nss nrc (nI u.1) (nI jd) mnumber mwhose msize u.2.1), (nrc, iA G 30 u.2.2)])
set_option maxHeartbeats 4000000 in
set_option maxRecDepth 100000 in
theorem m_body22 (l : Launch) (G : GG) (h0 : Nat) (xx : Int32) (nw : Nat) (nk : Nat) (mhasKept : Int32) (nt : Nat) (mtaped : Int32) (nr : Nat) (mrowMany : Int32) (mroundOf : Int32) (mroundFrom : Int32) (mouts : Int32) (nm : Nat) (mfromHour : Int32) (mtoHour : Int32) (ns : Nat) (mfrom : Int32) (mto : Int32) (msort : Int32) (misFault : Int32) (mdeep : Int32) (mcoded : Int32) (mlines : Int32) (nl : Nat) (nc : Nat) (nF : Nat) (np : Nat) (ntr : Nat) (nb : Nat) (mbestCost : Int32) (nso : Nat) (nsi : Nat) (nit : Nat) (nsh : Nat) (nsf : Nat) (nss : Nat) (nrc : Nat) (jr : Nat) (jd : Nat) (mnumber : Int32) (mwhose : Int32) (msize : Int32) (misParted : Int32) (fnrc : Nat → Int32) (hjr : jr ≤ 30) (hjd : jd < 7) : K_m_body22 l G h0 xx nw nk mhasKept nt mtaped nr mrowMany mroundOf mroundFrom mouts nm mfromHour mtoHour ns mfrom mto msort misFault mdeep mcoded mlines nl nc nF np ntr nb mbestCost nso nsi nit nsh nsf nss nrc jr jd mnumber mwhose msize misParted fnrc := by
  refine MI.start (by decide +kernel) (Nat.le_of_ble_eq_true rfl) ?_
  intro p e s m below meth c A ls hC hK hP hD hS hA hl
  refine absQ (fun Q0 hQ0 => ?_)
  have hl : lv_has ls 6 [(0, .ref h0), (1, .int 2), (2, .int 2), (3, .int xx)] := hl
  refine Kan8 hC (fun hx hb hr hml hB hown hlocks hnm => ?_)
  refine lv_iconst (v := 4) hx hb gX12_body_0.1 (by decide) ?_
  refine lv_iload_n hx hb gX12_body_0.2.1 rfl (lv_at1 hl) ?_
  refine lv_imul hx hb gX12_body_0.2.2.1 ?_
  refine eqi (x1 := 8) (by decide) ?_
  refine lv_iload_n hx hb gX12_body_0.2.2.2.1 rfl (lv_at2 hl) ?_
  refine lv_iadd hx hb gX12_body_0.2.2.2.2.1 ?_
  refine eqi (x1 := 10) (by decide) ?_
  refine lv_tableIn (tgt := 226) hx hb gX12_body_0.2.2.2.2.2.1 (by decide) (by decide) rfl (by decide) ?_
  refine lv_aload_n hx hb gX12_body_7.2.2.2.1 rfl (lv_at0 hl) ?_
  refine lv_bipush (v := 30) hx hb gX12_body_7.2.2.2.2.1 (by decide) ?_
  refine vV (wr := []) hC hK hl hP hD hS hA (m_began l G h0 30 nw nk mhasKept nt mtaped nr mrowMany mroundOf mroundFrom mouts nm mfromHour mtoHour ns mfrom mto msort misFault mdeep mcoded mlines nl nc nF np ntr nb mbestCost nso nsi nit nsh nsf nss nrc jr (nI jd) mnumber mwhose msize misParted fnrc (hjr)) si_X12_366 [0, 1] [] sm_0_1 fm_0_1 nd_0_1 rfl rfl (by decide) rfl rfl rfl rfl rfl (Nat.le_of_ble_eq_true rfl) rm_29_1_2 ⟨Nat.le_of_ble_eq_true rfl, Nat.le_of_ble_eq_true rfl⟩ gX12_body_7.2.2.2.2.2.1 (Ktu2 fun jr15907 gtrc5908 => ?_)
  intro H locs hr5905 hP hD hS
  try dsimp only at hr5905
  refine Kpdr (ws := [(h0, oX12 nw nk mhasKept nt mtaped nr mrowMany mroundOf mroundFrom mouts nm mfromHour mtoHour ns mfrom mto msort misFault mdeep mcoded mlines nl nc nF np ntr nb mbestCost nso nsi nit nsh nsf nss nrc (nI jr15907) (nI jd) mnumber mwhose msize misParted), (nrc, iA G 30 gtrc5908)]) hP hD (fun hP hD => ?_)
  have w5909 := hr5905
  refine lv_aload_n hx hb gX12_body_7.2.2.2.2.2.2.1 rfl (lv_at0 hl) ?_
  refine lv_iconst (v := 0) hx hb gX12_body_7.2.2.2.2.2.2.2.1 (by decide) ?_
  refine lv_iconst (v := 2) hx hb gX12_body_7.2.2.2.2.2.2.2.2.1 (by decide) ?_
  refine lv_iload_n hx hb gX12_body_7.2.2.2.2.2.2.2.2.2 rfl (lv_at3 hl) ?_
  refine iV (wr := []) hC hK hl hP hD hS hA (m_from02 l G h0 xx nw nk mhasKept nt mtaped nr mrowMany mroundOf mroundFrom mouts nm mfromHour mtoHour ns mfrom mto msort misFault mdeep mcoded mlines nl nc nF np ntr nb mbestCost nso nsi nit nsh nsf nss nrc jr15907 jd mnumber mwhose msize misParted gtrc5908 (w5909) (hjd)) si_X12_357 [0, 1] [] sm_0_1 fm_0_1 nd_0_1 rfl rfl (by decide) rfl rfl rfl rfl rfl (Nat.le_of_ble_eq_true rfl) rm_29_28_5 ⟨Nat.le_of_ble_eq_true rfl, Nat.le_of_ble_eq_true rfl⟩ gX12_body_8.1 (fun r5910 => Ktu3 fun jr15912 ip15913 gtrc5914 => ?_)
  intro H locs hr5910 hP hD hS
  try dsimp only at hr5910
  refine Kpdr (ws := [(h0, oX12 nw nk mhasKept nt mtaped nr mrowMany mroundOf mroundFrom mouts nm mfromHour mtoHour ns mfrom mto msort misFault mdeep mcoded mlines nl nc nF np ntr nb mbestCost nso nsi nit nsh nsf nss nrc (nI jr15912) (nI jd) mnumber mwhose msize ip15913), (nrc, iA G 30 gtrc5914)]) hP hD (fun hP hD => ?_)
  obtain ⟨hr5910, w5915⟩ := hr5910
  refine lv_iconst (v := 3) hx hb gX12_body_8.2.1 (by decide) ?_
  refine lv_imul hx hb gX12_body_8.2.2.1 ?_
  refine toQ hQ0 ?_
  exact RI (v := r5910 * 3) hC hP hD hS [0, 1] (jr15912, ip15913, gtrc5914) rfl rfl (by decide) (⟨trivial, by omega⟩) rfl gX12_body_8.2.2.2.1
def K_m_from22 (l : Launch) (G : GG) (h0 : Nat) (xx : Int32) (nw : Nat) (nk : Nat) (mhasKept : Int32) (nt : Nat) (mtaped : Int32) (nr : Nat) (mrowMany : Int32) (mroundOf : Int32) (mroundFrom : Int32) (mouts : Int32) (nm : Nat) (mfromHour : Int32) (mtoHour : Int32) (ns : Nat) (mfrom : Int32) (mto : Int32) (msort : Int32) (misFault : Int32) (mdeep : Int32) (mcoded : Int32) (mlines : Int32) (nl : Nat) (nc : Nat) (nF : Nat) (np : Nat) (ntr : Nat) (nb : Nat) (mbestCost : Int32) (nso : Nat) (nsi : Nat) (nit : Nat) (nsh : Nat) (nsf : Nat) (nss : Nat) (nrc : Nat) (jr : Nat) (jd : Nat) (mnumber : Int32) (mwhose : Int32) (msize : Int32) (misParted : Int32) (fnrc : Nat → Int32) : Prop := MI l G yX12_bodyFrom cX12_bodyFrom 5 (some .int) 30 0 0 [.ref h0, .int 2, .int 2, .int xx] [(h0, oX12 nw nk mhasKept nt mtaped nr mrowMany mroundOf mroundFrom mouts nm mfromHour mtoHour ns mfrom mto msort misFault mdeep mcoded mlines nl nc nF np ntr nb mbestCost nso nsi nit nsh nsf nss nrc (nI jr) (nI jd) mnumber mwhose msize misParted), (nrc, iA G 30 fnrc)] (fun (r : Int32) (u : Nat × Int32 × (Nat → Int32)) => (True) ∧ (u.1 ≤ 30)) (fun u : Nat × Int32 × (Nat → Int32) => [(h0, oX12 nw nk mhasKept nt mtaped nr mrowMany mroundOf mroundFrom mouts nm mfromHour mtoHour ns mfrom mto msort misFault mdeep mcoded mlines nl nc nF np ntr nb mbestCost nso nsi nit nsh nsf nss nrc (nI u.1) (nI jd) mnumber mwhose msize u.2.1), (nrc, iA G 30 u.2.2)])
set_option maxHeartbeats 4000000 in
set_option maxRecDepth 100000 in
theorem m_from22 (l : Launch) (G : GG) (h0 : Nat) (xx : Int32) (nw : Nat) (nk : Nat) (mhasKept : Int32) (nt : Nat) (mtaped : Int32) (nr : Nat) (mrowMany : Int32) (mroundOf : Int32) (mroundFrom : Int32) (mouts : Int32) (nm : Nat) (mfromHour : Int32) (mtoHour : Int32) (ns : Nat) (mfrom : Int32) (mto : Int32) (msort : Int32) (misFault : Int32) (mdeep : Int32) (mcoded : Int32) (mlines : Int32) (nl : Nat) (nc : Nat) (nF : Nat) (np : Nat) (ntr : Nat) (nb : Nat) (mbestCost : Int32) (nso : Nat) (nsi : Nat) (nit : Nat) (nsh : Nat) (nsf : Nat) (nss : Nat) (nrc : Nat) (jr : Nat) (jd : Nat) (mnumber : Int32) (mwhose : Int32) (msize : Int32) (misParted : Int32) (fnrc : Nat → Int32) (hjr : jr ≤ 30) (hjd : jd < 7) : K_m_from22 l G h0 xx nw nk mhasKept nt mtaped nr mrowMany mroundOf mroundFrom mouts nm mfromHour mtoHour ns mfrom mto msort misFault mdeep mcoded mlines nl nc nF np ntr nb mbestCost nso nsi nit nsh nsf nss nrc jr jd mnumber mwhose msize misParted fnrc := by
  refine MI.start (by decide +kernel) (Nat.le_of_ble_eq_true rfl) ?_
  intro p e s m below meth c A ls hC hK hP hD hS hA hl
  refine absQ (fun Q0 hQ0 => ?_)
  have hl : lv_has ls 5 [(0, .ref h0), (1, .int 2), (2, .int 2), (3, .int xx)] := hl
  refine Kan8 hC (fun hx hb hr hml hB hown hlocks hnm => ?_)
  refine lv_iload_n hx hb gX12_bodyFrom_0.1 rfl (lv_at1 hl) ?_
  refine lv_istore (lv' := [(4, .int 2), (0, .ref h0), (1, .int 2), (2, .int 2), (3, .int xx)]) hx hb gX12_bodyFrom_0.2.1 hl (by decide) rfl (fun ls hl => ?_)
  refine lv_iload hx hb gX12_bodyFrom_0.2.2.1 (lv_at0 hl) ?_
  refine lv_iload_n hx hb gX12_bodyFrom_0.2.2.2.1 rfl (lv_at3 hl) ?_
  refine pS hC hK hl (m_hasOwn22 l G) si_X12_360 rfl rfl (Nat.le_of_ble_eq_true rfl) rm_30_1_2 ⟨by first | exact Nat.le_of_ble_eq_true rfl | exact Nat.zero_le _, by first | exact Nat.le_of_ble_eq_true rfl | exact Nat.zero_le _⟩ gX12_bodyFrom_0.2.2.2.2.1 (Keqr ?_)
  refine lv_if_ne (tgt := 22) hx hb gX12_bodyFrom_0.2.2.2.2.2.1 (by decide) (fun _ => ?_) (fun c9 => absurd c9 (by decide))
  refine lv_aload_n hx hb gX12_bodyFrom_1.1 rfl (lv_at1 hl) ?_
  refine lv_iload hx hb gX12_bodyFrom_1.2.1 (lv_at0 hl) ?_
  refine lv_iload_n hx hb gX12_bodyFrom_1.2.2.1 rfl (lv_at3 hl) ?_
  refine lv_iload_n hx hb gX12_bodyFrom_1.2.2.2.1 rfl (lv_at4 hl) ?_
  refine iV (wr := []) hC hK hl hP hD hS hA (m_body22 l G h0 xx nw nk mhasKept nt mtaped nr mrowMany mroundOf mroundFrom mouts nm mfromHour mtoHour ns mfrom mto msort misFault mdeep mcoded mlines nl nc nF np ntr nb mbestCost nso nsi nit nsh nsf nss nrc jr jd mnumber mwhose msize misParted fnrc (hjr) (hjd)) si_X12_363 [0, 1] [] sm_0_1 fm_0_1 nd_0_1 rfl rfl (by decide) rfl rfl rfl rfl rfl (Nat.le_of_ble_eq_true rfl) rm_30_29_6 ⟨Nat.le_of_ble_eq_true rfl, Nat.le_of_ble_eq_true rfl⟩ gX12_bodyFrom_1.2.2.2.2.1 (fun r5918 => Ktu3 fun jr15920 ip15921 gtrc5922 => ?_)
  intro H locs hr5918 hP hD hS
  try dsimp only at hr5918
  refine Kpdr (ws := [(h0, oX12 nw nk mhasKept nt mtaped nr mrowMany mroundOf mroundFrom mouts nm mfromHour mtoHour ns mfrom mto msort misFault mdeep mcoded mlines nl nc nF np ntr nb mbestCost nso nsi nit nsh nsf nss nrc (nI jr15920) (nI jd) mnumber mwhose msize ip15921), (nrc, iA G 30 gtrc5922)]) hP hD (fun hP hD => ?_)
  obtain ⟨hr5918, w5923⟩ := hr5918
  refine toQ hQ0 ?_
  exact RI (v := r5918) hC hP hD hS [0, 1] (jr15920, ip15921, gtrc5922) rfl rfl (by decide) (⟨trivial, by omega⟩) rfl gX12_bodyFrom_1.2.2.2.2.2
def K_m_body42 (l : Launch) (G : GG) (h0 : Nat) (xx : Int32) (nw : Nat) (nk : Nat) (mhasKept : Int32) (nt : Nat) (mtaped : Int32) (nr : Nat) (mrowMany : Int32) (mroundOf : Int32) (mroundFrom : Int32) (mouts : Int32) (nm : Nat) (mfromHour : Int32) (mtoHour : Int32) (ns : Nat) (mfrom : Int32) (mto : Int32) (msort : Int32) (misFault : Int32) (mdeep : Int32) (mcoded : Int32) (mlines : Int32) (nl : Nat) (nc : Nat) (nF : Nat) (np : Nat) (ntr : Nat) (nb : Nat) (mbestCost : Int32) (nso : Nat) (nsi : Nat) (nit : Nat) (nsh : Nat) (nsf : Nat) (nss : Nat) (nrc : Nat) (jr : Nat) (jd : Nat) (mnumber : Int32) (mwhose : Int32) (msize : Int32) (misParted : Int32) (fnrc : Nat → Int32) : Prop := MI l G yX12_body cX12_body 6 (some .int) 31 0 0 [.ref h0, .int 4, .int 2, .int xx] [(h0, oX12 nw nk mhasKept nt mtaped nr mrowMany mroundOf mroundFrom mouts nm mfromHour mtoHour ns mfrom mto msort misFault mdeep mcoded mlines nl nc nF np ntr nb mbestCost nso nsi nit nsh nsf nss nrc (nI jr) (nI jd) mnumber mwhose msize misParted), (nrc, iA G 30 fnrc)] (fun (r : Int32) (u : Nat × Int32 × (Nat → Int32)) => (True) ∧ (u.1 ≤ 30)) (fun u : Nat × Int32 × (Nat → Int32) => [(h0, oX12 nw nk mhasKept nt mtaped nr mrowMany mroundOf mroundFrom mouts nm mfromHour mtoHour ns mfrom mto msort misFault mdeep mcoded mlines nl nc nF np ntr nb mbestCost nso nsi nit nsh nsf nss nrc (nI u.1) (nI jd) mnumber mwhose msize u.2.1), (nrc, iA G 30 u.2.2)])
set_option maxHeartbeats 4000000 in
set_option maxRecDepth 100000 in
theorem m_body42 (l : Launch) (G : GG) (h0 : Nat) (xx : Int32) (nw : Nat) (nk : Nat) (mhasKept : Int32) (nt : Nat) (mtaped : Int32) (nr : Nat) (mrowMany : Int32) (mroundOf : Int32) (mroundFrom : Int32) (mouts : Int32) (nm : Nat) (mfromHour : Int32) (mtoHour : Int32) (ns : Nat) (mfrom : Int32) (mto : Int32) (msort : Int32) (misFault : Int32) (mdeep : Int32) (mcoded : Int32) (mlines : Int32) (nl : Nat) (nc : Nat) (nF : Nat) (np : Nat) (ntr : Nat) (nb : Nat) (mbestCost : Int32) (nso : Nat) (nsi : Nat) (nit : Nat) (nsh : Nat) (nsf : Nat) (nss : Nat) (nrc : Nat) (jr : Nat) (jd : Nat) (mnumber : Int32) (mwhose : Int32) (msize : Int32) (misParted : Int32) (fnrc : Nat → Int32) (hjr : jr ≤ 30) (hjd : jd < 7) : K_m_body42 l G h0 xx nw nk mhasKept nt mtaped nr mrowMany mroundOf mroundFrom mouts nm mfromHour mtoHour ns mfrom mto msort misFault mdeep mcoded mlines nl nc nF np ntr nb mbestCost nso nsi nit nsh nsf nss nrc jr jd mnumber mwhose msize misParted fnrc := by
  refine MI.start (by decide +kernel) (Nat.le_of_ble_eq_true rfl) ?_
  intro p e s m below meth c A ls hC hK hP hD hS hA hl
  refine absQ (fun Q0 hQ0 => ?_)
  have hl : lv_has ls 6 [(0, .ref h0), (1, .int 4), (2, .int 2), (3, .int xx)] := hl
  refine Kan8 hC (fun hx hb hr hml hB hown hlocks hnm => ?_)
  refine lv_iconst (v := 4) hx hb gX12_body_0.1 (by decide) ?_
  refine lv_iload_n hx hb gX12_body_0.2.1 rfl (lv_at1 hl) ?_
  refine lv_imul hx hb gX12_body_0.2.2.1 ?_
  refine eqi (x1 := 16) (by decide) ?_
  refine lv_iload_n hx hb gX12_body_0.2.2.2.1 rfl (lv_at2 hl) ?_
  refine lv_iadd hx hb gX12_body_0.2.2.2.2.1 ?_
  refine eqi (x1 := 18) (by decide) ?_
  refine lv_tableIn (tgt := 293) hx hb gX12_body_0.2.2.2.2.2.1 (by decide) (by decide) rfl (by decide) ?_
  refine lv_aload_n hx hb gX12_body_11.2.2.2.2.2.2.2.2.1 rfl (lv_at0 hl) ?_
  refine lv_bipush (v := 51) hx hb gX12_body_11.2.2.2.2.2.2.2.2.2 (by decide) ?_
  refine vV (wr := []) hC hK hl hP hD hS hA (m_began l G h0 51 nw nk mhasKept nt mtaped nr mrowMany mroundOf mroundFrom mouts nm mfromHour mtoHour ns mfrom mto msort misFault mdeep mcoded mlines nl nc nF np ntr nb mbestCost nso nsi nit nsh nsf nss nrc jr (nI jd) mnumber mwhose msize misParted fnrc (hjr)) si_X12_366 [0, 1] [] sm_0_1 fm_0_1 nd_0_1 rfl rfl (by decide) rfl rfl rfl rfl rfl (Nat.le_of_ble_eq_true rfl) rm_31_1_2 ⟨Nat.le_of_ble_eq_true rfl, Nat.le_of_ble_eq_true rfl⟩ gX12_body_12.1 (Ktu2 fun jr15926 gtrc5927 => ?_)
  intro H locs hr5924 hP hD hS
  try dsimp only at hr5924
  refine Kpdr (ws := [(h0, oX12 nw nk mhasKept nt mtaped nr mrowMany mroundOf mroundFrom mouts nm mfromHour mtoHour ns mfrom mto msort misFault mdeep mcoded mlines nl nc nF np ntr nb mbestCost nso nsi nit nsh nsf nss nrc (nI jr15926) (nI jd) mnumber mwhose msize misParted), (nrc, iA G 30 gtrc5927)]) hP hD (fun hP hD => ?_)
  have w5928 := hr5924
  refine lv_aload_n hx hb gX12_body_12.2.1 rfl (lv_at0 hl) ?_
  refine lv_iconst (v := 0) hx hb gX12_body_12.2.2.1 (by decide) ?_
  refine lv_iconst (v := 2) hx hb gX12_body_12.2.2.2.1 (by decide) ?_
  refine lv_iload_n hx hb gX12_body_12.2.2.2.2.1 rfl (lv_at3 hl) ?_
  refine iV (wr := []) hC hK hl hP hD hS hA (m_from02 l G h0 xx nw nk mhasKept nt mtaped nr mrowMany mroundOf mroundFrom mouts nm mfromHour mtoHour ns mfrom mto msort misFault mdeep mcoded mlines nl nc nF np ntr nb mbestCost nso nsi nit nsh nsf nss nrc jr15926 jd mnumber mwhose msize misParted gtrc5927 (w5928) (hjd)) si_X12_357 [0, 1] [] sm_0_1 fm_0_1 nd_0_1 rfl rfl (by decide) rfl rfl rfl rfl rfl (Nat.le_of_ble_eq_true rfl) rm_31_28_5 ⟨Nat.le_of_ble_eq_true rfl, Nat.le_of_ble_eq_true rfl⟩ gX12_body_12.2.2.2.2.2.1 (fun r5929 => Ktu3 fun jr15931 ip15932 gtrc5933 => ?_)
  intro H locs hr5929 hP hD hS
  try dsimp only at hr5929
  refine Kpdr (ws := [(h0, oX12 nw nk mhasKept nt mtaped nr mrowMany mroundOf mroundFrom mouts nm mfromHour mtoHour ns mfrom mto msort misFault mdeep mcoded mlines nl nc nF np ntr nb mbestCost nso nsi nit nsh nsf nss nrc (nI jr15931) (nI jd) mnumber mwhose msize ip15932), (nrc, iA G 30 gtrc5933)]) hP hD (fun hP hD => ?_)
  obtain ⟨hr5929, w5934⟩ := hr5929
  refine lv_istore (lv' := [(4, .int r5929), (0, .ref h0), (1, .int 4), (2, .int 2), (3, .int xx)]) hx hb gX12_body_12.2.2.2.2.2.2.1 hl (by decide) rfl (fun ls hl => ?_)
  refine lv_iload hx hb gX12_body_12.2.2.2.2.2.2.2.1 (lv_at0 hl) ?_
  refine lv_aload_n hx hb gX12_body_12.2.2.2.2.2.2.2.2.1 rfl (lv_at1 hl) ?_
  refine lv_iconst (v := 1) hx hb gX12_body_12.2.2.2.2.2.2.2.2.2 (by decide) ?_
  refine lv_iconst (v := 1) hx hb gX12_body_13.1 (by decide) ?_
  refine iV (wr := []) hC hK hl hP hD hS hA (m_dealt1 l G h0 1 nw nk mhasKept nt mtaped nr mrowMany mroundOf mroundFrom mouts nm mfromHour mtoHour ns mfrom mto msort misFault mdeep mcoded mlines nl nc nF np ntr nb mbestCost nso nsi nit nsh nsf nss nrc jr15931 jd mnumber mwhose msize ip15932 gtrc5933 (w5934) (hjd)) si_X12_372 [0, 1] [] sm_0_1 fm_0_1 nd_0_1 rfl rfl (by decide) rfl rfl rfl rfl rfl (Nat.le_of_ble_eq_true rfl) rm_31_26_3 ⟨Nat.le_of_ble_eq_true rfl, Nat.le_of_ble_eq_true rfl⟩ gX12_body_13.2.1 (fun r5935 => Ktu3 fun jr15937 ip15938 gtrc5939 => ?_)
  intro H locs hr5935 hP hD hS
  try dsimp only at hr5935
  refine Kpdr (ws := [(h0, oX12 nw nk mhasKept nt mtaped nr mrowMany mroundOf mroundFrom mouts nm mfromHour mtoHour ns mfrom mto msort misFault mdeep mcoded mlines nl nc nF np ntr nb mbestCost nso nsi nit nsh nsf nss nrc (nI jr15937) (nI jd) mnumber mwhose msize ip15938), (nrc, iA G 30 gtrc5939)]) hP hD (fun hP hD => ?_)
  obtain ⟨hr5935, w5940⟩ := hr5935
  refine lv_iadd hx hb gX12_body_13.2.2.1 ?_
  refine toQ hQ0 ?_
  exact RI (v := r5929 + r5935) hC hP hD hS [0, 1] (jr15937, ip15938, gtrc5939) rfl rfl (by decide) (⟨trivial, by omega⟩) rfl gX12_body_13.2.2.2.1
def K_m_from42 (l : Launch) (G : GG) (h0 : Nat) (xx : Int32) (nw : Nat) (nk : Nat) (mhasKept : Int32) (nt : Nat) (mtaped : Int32) (nr : Nat) (mrowMany : Int32) (mroundOf : Int32) (mroundFrom : Int32) (mouts : Int32) (nm : Nat) (mfromHour : Int32) (mtoHour : Int32) (ns : Nat) (mfrom : Int32) (mto : Int32) (msort : Int32) (misFault : Int32) (mdeep : Int32) (mcoded : Int32) (mlines : Int32) (nl : Nat) (nc : Nat) (nF : Nat) (np : Nat) (ntr : Nat) (nb : Nat) (mbestCost : Int32) (nso : Nat) (nsi : Nat) (nit : Nat) (nsh : Nat) (nsf : Nat) (nss : Nat) (nrc : Nat) (jr : Nat) (jd : Nat) (mnumber : Int32) (mwhose : Int32) (msize : Int32) (misParted : Int32) (fnrc : Nat → Int32) : Prop := MI l G yX12_bodyFrom cX12_bodyFrom 5 (some .int) 32 0 0 [.ref h0, .int 4, .int 2, .int xx] [(h0, oX12 nw nk mhasKept nt mtaped nr mrowMany mroundOf mroundFrom mouts nm mfromHour mtoHour ns mfrom mto msort misFault mdeep mcoded mlines nl nc nF np ntr nb mbestCost nso nsi nit nsh nsf nss nrc (nI jr) (nI jd) mnumber mwhose msize misParted), (nrc, iA G 30 fnrc)] (fun (r : Int32) (u : Nat × Int32 × (Nat → Int32)) => (True) ∧ (u.1 ≤ 30)) (fun u : Nat × Int32 × (Nat → Int32) => [(h0, oX12 nw nk mhasKept nt mtaped nr mrowMany mroundOf mroundFrom mouts nm mfromHour mtoHour ns mfrom mto msort misFault mdeep mcoded mlines nl nc nF np ntr nb mbestCost nso nsi nit nsh nsf nss nrc (nI u.1) (nI jd) mnumber mwhose msize u.2.1), (nrc, iA G 30 u.2.2)])
set_option maxHeartbeats 4000000 in
set_option maxRecDepth 100000 in
theorem m_from42 (l : Launch) (G : GG) (h0 : Nat) (xx : Int32) (nw : Nat) (nk : Nat) (mhasKept : Int32) (nt : Nat) (mtaped : Int32) (nr : Nat) (mrowMany : Int32) (mroundOf : Int32) (mroundFrom : Int32) (mouts : Int32) (nm : Nat) (mfromHour : Int32) (mtoHour : Int32) (ns : Nat) (mfrom : Int32) (mto : Int32) (msort : Int32) (misFault : Int32) (mdeep : Int32) (mcoded : Int32) (mlines : Int32) (nl : Nat) (nc : Nat) (nF : Nat) (np : Nat) (ntr : Nat) (nb : Nat) (mbestCost : Int32) (nso : Nat) (nsi : Nat) (nit : Nat) (nsh : Nat) (nsf : Nat) (nss : Nat) (nrc : Nat) (jr : Nat) (jd : Nat) (mnumber : Int32) (mwhose : Int32) (msize : Int32) (misParted : Int32) (fnrc : Nat → Int32) (hjr : jr ≤ 30) (hjd : jd < 7) : K_m_from42 l G h0 xx nw nk mhasKept nt mtaped nr mrowMany mroundOf mroundFrom mouts nm mfromHour mtoHour ns mfrom mto msort misFault mdeep mcoded mlines nl nc nF np ntr nb mbestCost nso nsi nit nsh nsf nss nrc jr jd mnumber mwhose msize misParted fnrc := by
  refine MI.start (by decide +kernel) (Nat.le_of_ble_eq_true rfl) ?_
  intro p e s m below meth c A ls hC hK hP hD hS hA hl
  refine absQ (fun Q0 hQ0 => ?_)
  have hl : lv_has ls 5 [(0, .ref h0), (1, .int 4), (2, .int 2), (3, .int xx)] := hl
  refine Kan8 hC (fun hx hb hr hml hB hown hlocks hnm => ?_)
  refine lv_iload_n hx hb gX12_bodyFrom_0.1 rfl (lv_at1 hl) ?_
  refine lv_istore (lv' := [(4, .int 4), (0, .ref h0), (1, .int 4), (2, .int 2), (3, .int xx)]) hx hb gX12_bodyFrom_0.2.1 hl (by decide) rfl (fun ls hl => ?_)
  refine lv_iload hx hb gX12_bodyFrom_0.2.2.1 (lv_at0 hl) ?_
  refine lv_iload_n hx hb gX12_bodyFrom_0.2.2.2.1 rfl (lv_at3 hl) ?_
  refine pS hC hK hl (m_hasOwn42 l G) si_X12_360 rfl rfl (Nat.le_of_ble_eq_true rfl) rm_32_1_2 ⟨by first | exact Nat.le_of_ble_eq_true rfl | exact Nat.zero_le _, by first | exact Nat.le_of_ble_eq_true rfl | exact Nat.zero_le _⟩ gX12_bodyFrom_0.2.2.2.2.1 (Keqr ?_)
  refine lv_if_ne (tgt := 22) hx hb gX12_bodyFrom_0.2.2.2.2.2.1 (by decide) (fun _ => ?_) (fun c9 => absurd c9 (by decide))
  refine lv_aload_n hx hb gX12_bodyFrom_1.1 rfl (lv_at1 hl) ?_
  refine lv_iload hx hb gX12_bodyFrom_1.2.1 (lv_at0 hl) ?_
  refine lv_iload_n hx hb gX12_bodyFrom_1.2.2.1 rfl (lv_at3 hl) ?_
  refine lv_iload_n hx hb gX12_bodyFrom_1.2.2.2.1 rfl (lv_at4 hl) ?_
  refine iV (wr := []) hC hK hl hP hD hS hA (m_body42 l G h0 xx nw nk mhasKept nt mtaped nr mrowMany mroundOf mroundFrom mouts nm mfromHour mtoHour ns mfrom mto msort misFault mdeep mcoded mlines nl nc nF np ntr nb mbestCost nso nsi nit nsh nsf nss nrc jr jd mnumber mwhose msize misParted fnrc (hjr) (hjd)) si_X12_363 [0, 1] [] sm_0_1 fm_0_1 nd_0_1 rfl rfl (by decide) rfl rfl rfl rfl rfl (Nat.le_of_ble_eq_true rfl) rm_32_31_6 ⟨Nat.le_of_ble_eq_true rfl, Nat.le_of_ble_eq_true rfl⟩ gX12_bodyFrom_1.2.2.2.2.1 (fun r5943 => Ktu3 fun jr15945 ip15946 gtrc5947 => ?_)
  intro H locs hr5943 hP hD hS
  try dsimp only at hr5943
  refine Kpdr (ws := [(h0, oX12 nw nk mhasKept nt mtaped nr mrowMany mroundOf mroundFrom mouts nm mfromHour mtoHour ns mfrom mto msort misFault mdeep mcoded mlines nl nc nF np ntr nb mbestCost nso nsi nit nsh nsf nss nrc (nI jr15945) (nI jd) mnumber mwhose msize ip15946), (nrc, iA G 30 gtrc5947)]) hP hD (fun hP hD => ?_)
  obtain ⟨hr5943, w5948⟩ := hr5943
  refine toQ hQ0 ?_
  exact RI (v := r5943) hC hP hD hS [0, 1] (jr15945, ip15946, gtrc5947) rfl rfl (by decide) (⟨trivial, by omega⟩) rfl gX12_bodyFrom_1.2.2.2.2.2
def K_m_body52 (l : Launch) (G : GG) (h0 : Nat) (xx : Int32) (nw : Nat) (nk : Nat) (mhasKept : Int32) (nt : Nat) (mtaped : Int32) (nr : Nat) (mrowMany : Int32) (mroundOf : Int32) (mroundFrom : Int32) (mouts : Int32) (nm : Nat) (mfromHour : Int32) (mtoHour : Int32) (ns : Nat) (mfrom : Int32) (mto : Int32) (msort : Int32) (misFault : Int32) (mdeep : Int32) (mcoded : Int32) (mlines : Int32) (nl : Nat) (nc : Nat) (nF : Nat) (np : Nat) (ntr : Nat) (nb : Nat) (mbestCost : Int32) (nso : Nat) (nsi : Nat) (nit : Nat) (nsh : Nat) (nsf : Nat) (nss : Nat) (nrc : Nat) (jr : Nat) (jd : Nat) (mnumber : Int32) (mwhose : Int32) (msize : Int32) (misParted : Int32) (fnrc : Nat → Int32) : Prop := MI l G yX12_body cX12_body 6 (some .int) 33 0 0 [.ref h0, .int 5, .int 2, .int xx] [(h0, oX12 nw nk mhasKept nt mtaped nr mrowMany mroundOf mroundFrom mouts nm mfromHour mtoHour ns mfrom mto msort misFault mdeep mcoded mlines nl nc nF np ntr nb mbestCost nso nsi nit nsh nsf nss nrc (nI jr) (nI jd) mnumber mwhose msize misParted), (nrc, iA G 30 fnrc)] (fun (r : Int32) (u : Nat × Int32 × (Nat → Int32)) => (True) ∧ (u.1 ≤ 30)) (fun u : Nat × Int32 × (Nat → Int32) => [(h0, oX12 nw nk mhasKept nt mtaped nr mrowMany mroundOf mroundFrom mouts nm mfromHour mtoHour ns mfrom mto msort misFault mdeep mcoded mlines nl nc nF np ntr nb mbestCost nso nsi nit nsh nsf nss nrc (nI u.1) (nI jd) mnumber mwhose msize u.2.1), (nrc, iA G 30 u.2.2)])
set_option maxHeartbeats 4000000 in
set_option maxRecDepth 100000 in
theorem m_body52 (l : Launch) (G : GG) (h0 : Nat) (xx : Int32) (nw : Nat) (nk : Nat) (mhasKept : Int32) (nt : Nat) (mtaped : Int32) (nr : Nat) (mrowMany : Int32) (mroundOf : Int32) (mroundFrom : Int32) (mouts : Int32) (nm : Nat) (mfromHour : Int32) (mtoHour : Int32) (ns : Nat) (mfrom : Int32) (mto : Int32) (msort : Int32) (misFault : Int32) (mdeep : Int32) (mcoded : Int32) (mlines : Int32) (nl : Nat) (nc : Nat) (nF : Nat) (np : Nat) (ntr : Nat) (nb : Nat) (mbestCost : Int32) (nso : Nat) (nsi : Nat) (nit : Nat) (nsh : Nat) (nsf : Nat) (nss : Nat) (nrc : Nat) (jr : Nat) (jd : Nat) (mnumber : Int32) (mwhose : Int32) (msize : Int32) (misParted : Int32) (fnrc : Nat → Int32) (hjr : jr ≤ 30) (hjd : jd < 7) : K_m_body52 l G h0 xx nw nk mhasKept nt mtaped nr mrowMany mroundOf mroundFrom mouts nm mfromHour mtoHour ns mfrom mto msort misFault mdeep mcoded mlines nl nc nF np ntr nb mbestCost nso nsi nit nsh nsf nss nrc jr jd mnumber mwhose msize misParted fnrc := by
  refine MI.start (by decide +kernel) (Nat.le_of_ble_eq_true rfl) ?_
  intro p e s m below meth c A ls hC hK hP hD hS hA hl
  refine absQ (fun Q0 hQ0 => ?_)
  have hl : lv_has ls 6 [(0, .ref h0), (1, .int 5), (2, .int 2), (3, .int xx)] := hl
  refine Kan8 hC (fun hx hb hr hml hB hown hlocks hnm => ?_)
  refine lv_iconst (v := 4) hx hb gX12_body_0.1 (by decide) ?_
  refine lv_iload_n hx hb gX12_body_0.2.1 rfl (lv_at1 hl) ?_
  refine lv_imul hx hb gX12_body_0.2.2.1 ?_
  refine eqi (x1 := 20) (by decide) ?_
  refine lv_iload_n hx hb gX12_body_0.2.2.2.1 rfl (lv_at2 hl) ?_
  refine lv_iadd hx hb gX12_body_0.2.2.2.2.1 ?_
  refine eqi (x1 := 22) (by decide) ?_
  refine lv_tableIn (tgt := 318) hx hb gX12_body_0.2.2.2.2.2.1 (by decide) (by decide) rfl (by decide) ?_
  refine lv_aload_n hx hb gX12_body_13.2.2.2.2.1 rfl (lv_at0 hl) ?_
  refine lv_bipush (v := 60) hx hb gX12_body_13.2.2.2.2.2.1 (by decide) ?_
  refine vV (wr := []) hC hK hl hP hD hS hA (m_began l G h0 60 nw nk mhasKept nt mtaped nr mrowMany mroundOf mroundFrom mouts nm mfromHour mtoHour ns mfrom mto msort misFault mdeep mcoded mlines nl nc nF np ntr nb mbestCost nso nsi nit nsh nsf nss nrc jr (nI jd) mnumber mwhose msize misParted fnrc (hjr)) si_X12_366 [0, 1] [] sm_0_1 fm_0_1 nd_0_1 rfl rfl (by decide) rfl rfl rfl rfl rfl (Nat.le_of_ble_eq_true rfl) rm_33_1_2 ⟨Nat.le_of_ble_eq_true rfl, Nat.le_of_ble_eq_true rfl⟩ gX12_body_13.2.2.2.2.2.2.1 (Ktu2 fun jr15951 gtrc5952 => ?_)
  intro H locs hr5949 hP hD hS
  try dsimp only at hr5949
  refine Kpdr (ws := [(h0, oX12 nw nk mhasKept nt mtaped nr mrowMany mroundOf mroundFrom mouts nm mfromHour mtoHour ns mfrom mto msort misFault mdeep mcoded mlines nl nc nF np ntr nb mbestCost nso nsi nit nsh nsf nss nrc (nI jr15951) (nI jd) mnumber mwhose msize misParted), (nrc, iA G 30 gtrc5952)]) hP hD (fun hP hD => ?_)
  have w5953 := hr5949
  refine lv_aload_n hx hb gX12_body_13.2.2.2.2.2.2.2.1 rfl (lv_at0 hl) ?_
  refine lv_iconst (v := 4) hx hb gX12_body_13.2.2.2.2.2.2.2.2.1 (by decide) ?_
  refine lv_iconst (v := 2) hx hb gX12_body_13.2.2.2.2.2.2.2.2.2 (by decide) ?_
  refine lv_iload_n hx hb gX12_body_14.1 rfl (lv_at3 hl) ?_
  refine iV (wr := []) hC hK hl hP hD hS hA (m_from42 l G h0 xx nw nk mhasKept nt mtaped nr mrowMany mroundOf mroundFrom mouts nm mfromHour mtoHour ns mfrom mto msort misFault mdeep mcoded mlines nl nc nF np ntr nb mbestCost nso nsi nit nsh nsf nss nrc jr15951 jd mnumber mwhose msize misParted gtrc5952 (w5953) (hjd)) si_X12_357 [0, 1] [] sm_0_1 fm_0_1 nd_0_1 rfl rfl (by decide) rfl rfl rfl rfl rfl (Nat.le_of_ble_eq_true rfl) rm_33_32_5 ⟨Nat.le_of_ble_eq_true rfl, Nat.le_of_ble_eq_true rfl⟩ gX12_body_14.2.1 (fun r5954 => Ktu3 fun jr15956 ip15957 gtrc5958 => ?_)
  intro H locs hr5954 hP hD hS
  try dsimp only at hr5954
  refine Kpdr (ws := [(h0, oX12 nw nk mhasKept nt mtaped nr mrowMany mroundOf mroundFrom mouts nm mfromHour mtoHour ns mfrom mto msort misFault mdeep mcoded mlines nl nc nF np ntr nb mbestCost nso nsi nit nsh nsf nss nrc (nI jr15956) (nI jd) mnumber mwhose msize ip15957), (nrc, iA G 30 gtrc5958)]) hP hD (fun hP hD => ?_)
  obtain ⟨hr5954, w5959⟩ := hr5954
  refine lv_iconst (v := 2) hx hb gX12_body_14.2.2.1 (by decide) ?_
  refine lv_imul hx hb gX12_body_14.2.2.2.1 ?_
  refine toQ hQ0 ?_
  exact RI (v := r5954 * 2) hC hP hD hS [0, 1] (jr15956, ip15957, gtrc5958) rfl rfl (by decide) (⟨trivial, by omega⟩) rfl gX12_body_14.2.2.2.2.1
def K_m_from52 (l : Launch) (G : GG) (h0 : Nat) (xx : Int32) (nw : Nat) (nk : Nat) (mhasKept : Int32) (nt : Nat) (mtaped : Int32) (nr : Nat) (mrowMany : Int32) (mroundOf : Int32) (mroundFrom : Int32) (mouts : Int32) (nm : Nat) (mfromHour : Int32) (mtoHour : Int32) (ns : Nat) (mfrom : Int32) (mto : Int32) (msort : Int32) (misFault : Int32) (mdeep : Int32) (mcoded : Int32) (mlines : Int32) (nl : Nat) (nc : Nat) (nF : Nat) (np : Nat) (ntr : Nat) (nb : Nat) (mbestCost : Int32) (nso : Nat) (nsi : Nat) (nit : Nat) (nsh : Nat) (nsf : Nat) (nss : Nat) (nrc : Nat) (jr : Nat) (jd : Nat) (mnumber : Int32) (mwhose : Int32) (msize : Int32) (misParted : Int32) (fnrc : Nat → Int32) : Prop := MI l G yX12_bodyFrom cX12_bodyFrom 5 (some .int) 34 0 0 [.ref h0, .int 5, .int 2, .int xx] [(h0, oX12 nw nk mhasKept nt mtaped nr mrowMany mroundOf mroundFrom mouts nm mfromHour mtoHour ns mfrom mto msort misFault mdeep mcoded mlines nl nc nF np ntr nb mbestCost nso nsi nit nsh nsf nss nrc (nI jr) (nI jd) mnumber mwhose msize misParted), (nrc, iA G 30 fnrc)] (fun (r : Int32) (u : Nat × Int32 × (Nat → Int32)) => (True) ∧ (u.1 ≤ 30)) (fun u : Nat × Int32 × (Nat → Int32) => [(h0, oX12 nw nk mhasKept nt mtaped nr mrowMany mroundOf mroundFrom mouts nm mfromHour mtoHour ns mfrom mto msort misFault mdeep mcoded mlines nl nc nF np ntr nb mbestCost nso nsi nit nsh nsf nss nrc (nI u.1) (nI jd) mnumber mwhose msize u.2.1), (nrc, iA G 30 u.2.2)])
set_option maxHeartbeats 4000000 in
set_option maxRecDepth 100000 in
theorem m_from52 (l : Launch) (G : GG) (h0 : Nat) (xx : Int32) (nw : Nat) (nk : Nat) (mhasKept : Int32) (nt : Nat) (mtaped : Int32) (nr : Nat) (mrowMany : Int32) (mroundOf : Int32) (mroundFrom : Int32) (mouts : Int32) (nm : Nat) (mfromHour : Int32) (mtoHour : Int32) (ns : Nat) (mfrom : Int32) (mto : Int32) (msort : Int32) (misFault : Int32) (mdeep : Int32) (mcoded : Int32) (mlines : Int32) (nl : Nat) (nc : Nat) (nF : Nat) (np : Nat) (ntr : Nat) (nb : Nat) (mbestCost : Int32) (nso : Nat) (nsi : Nat) (nit : Nat) (nsh : Nat) (nsf : Nat) (nss : Nat) (nrc : Nat) (jr : Nat) (jd : Nat) (mnumber : Int32) (mwhose : Int32) (msize : Int32) (misParted : Int32) (fnrc : Nat → Int32) (hjr : jr ≤ 30) (hjd : jd < 7) : K_m_from52 l G h0 xx nw nk mhasKept nt mtaped nr mrowMany mroundOf mroundFrom mouts nm mfromHour mtoHour ns mfrom mto msort misFault mdeep mcoded mlines nl nc nF np ntr nb mbestCost nso nsi nit nsh nsf nss nrc jr jd mnumber mwhose msize misParted fnrc := by
  refine MI.start (by decide +kernel) (Nat.le_of_ble_eq_true rfl) ?_
  intro p e s m below meth c A ls hC hK hP hD hS hA hl
  refine absQ (fun Q0 hQ0 => ?_)
  have hl : lv_has ls 5 [(0, .ref h0), (1, .int 5), (2, .int 2), (3, .int xx)] := hl
  refine Kan8 hC (fun hx hb hr hml hB hown hlocks hnm => ?_)
  refine lv_iload_n hx hb gX12_bodyFrom_0.1 rfl (lv_at1 hl) ?_
  refine lv_istore (lv' := [(4, .int 5), (0, .ref h0), (1, .int 5), (2, .int 2), (3, .int xx)]) hx hb gX12_bodyFrom_0.2.1 hl (by decide) rfl (fun ls hl => ?_)
  refine lv_iload hx hb gX12_bodyFrom_0.2.2.1 (lv_at0 hl) ?_
  refine lv_iload_n hx hb gX12_bodyFrom_0.2.2.2.1 rfl (lv_at3 hl) ?_
  refine pS hC hK hl (m_hasOwn52 l G) si_X12_360 rfl rfl (Nat.le_of_ble_eq_true rfl) rm_34_1_2 ⟨by first | exact Nat.le_of_ble_eq_true rfl | exact Nat.zero_le _, by first | exact Nat.le_of_ble_eq_true rfl | exact Nat.zero_le _⟩ gX12_bodyFrom_0.2.2.2.2.1 (Keqr ?_)
  refine lv_if_ne (tgt := 22) hx hb gX12_bodyFrom_0.2.2.2.2.2.1 (by decide) (fun _ => ?_) (fun c9 => absurd c9 (by decide))
  refine lv_aload_n hx hb gX12_bodyFrom_1.1 rfl (lv_at1 hl) ?_
  refine lv_iload hx hb gX12_bodyFrom_1.2.1 (lv_at0 hl) ?_
  refine lv_iload_n hx hb gX12_bodyFrom_1.2.2.1 rfl (lv_at3 hl) ?_
  refine lv_iload_n hx hb gX12_bodyFrom_1.2.2.2.1 rfl (lv_at4 hl) ?_
  refine iV (wr := []) hC hK hl hP hD hS hA (m_body52 l G h0 xx nw nk mhasKept nt mtaped nr mrowMany mroundOf mroundFrom mouts nm mfromHour mtoHour ns mfrom mto msort misFault mdeep mcoded mlines nl nc nF np ntr nb mbestCost nso nsi nit nsh nsf nss nrc jr jd mnumber mwhose msize misParted fnrc (hjr) (hjd)) si_X12_363 [0, 1] [] sm_0_1 fm_0_1 nd_0_1 rfl rfl (by decide) rfl rfl rfl rfl rfl (Nat.le_of_ble_eq_true rfl) rm_34_33_6 ⟨Nat.le_of_ble_eq_true rfl, Nat.le_of_ble_eq_true rfl⟩ gX12_bodyFrom_1.2.2.2.2.1 (fun r5962 => Ktu3 fun jr15964 ip15965 gtrc5966 => ?_)
  intro H locs hr5962 hP hD hS
  try dsimp only at hr5962
  refine Kpdr (ws := [(h0, oX12 nw nk mhasKept nt mtaped nr mrowMany mroundOf mroundFrom mouts nm mfromHour mtoHour ns mfrom mto msort misFault mdeep mcoded mlines nl nc nF np ntr nb mbestCost nso nsi nit nsh nsf nss nrc (nI jr15964) (nI jd) mnumber mwhose msize ip15965), (nrc, iA G 30 gtrc5966)]) hP hD (fun hP hD => ?_)
  obtain ⟨hr5962, w5967⟩ := hr5962
  refine toQ hQ0 ?_
  exact RI (v := r5962) hC hP hD hS [0, 1] (jr15964, ip15965, gtrc5966) rfl rfl (by decide) (⟨trivial, by omega⟩) rfl gX12_bodyFrom_1.2.2.2.2.2
def K_m_from12 (l : Launch) (G : GG) (h0 : Nat) (xx : Int32) (nw : Nat) (nk : Nat) (mhasKept : Int32) (nt : Nat) (mtaped : Int32) (nr : Nat) (mrowMany : Int32) (mroundOf : Int32) (mroundFrom : Int32) (mouts : Int32) (nm : Nat) (mfromHour : Int32) (mtoHour : Int32) (ns : Nat) (mfrom : Int32) (mto : Int32) (msort : Int32) (misFault : Int32) (mdeep : Int32) (mcoded : Int32) (mlines : Int32) (nl : Nat) (nc : Nat) (nF : Nat) (np : Nat) (ntr : Nat) (nb : Nat) (mbestCost : Int32) (nso : Nat) (nsi : Nat) (nit : Nat) (nsh : Nat) (nsf : Nat) (nss : Nat) (nrc : Nat) (jr : Nat) (jd : Nat) (mnumber : Int32) (mwhose : Int32) (msize : Int32) (misParted : Int32) (fnrc : Nat → Int32) : Prop := MI l G yX12_bodyFrom cX12_bodyFrom 5 (some .int) 36 0 0 [.ref h0, .int 1, .int 2, .int xx] [(h0, oX12 nw nk mhasKept nt mtaped nr mrowMany mroundOf mroundFrom mouts nm mfromHour mtoHour ns mfrom mto msort misFault mdeep mcoded mlines nl nc nF np ntr nb mbestCost nso nsi nit nsh nsf nss nrc (nI jr) (nI jd) mnumber mwhose msize misParted), (nrc, iA G 30 fnrc)] (fun (r : Int32) (u : Nat × Int32 × (Nat → Int32)) => (True) ∧ (u.1 ≤ 30)) (fun u : Nat × Int32 × (Nat → Int32) => [(h0, oX12 nw nk mhasKept nt mtaped nr mrowMany mroundOf mroundFrom mouts nm mfromHour mtoHour ns mfrom mto msort misFault mdeep mcoded mlines nl nc nF np ntr nb mbestCost nso nsi nit nsh nsf nss nrc (nI u.1) (nI jd) mnumber mwhose msize u.2.1), (nrc, iA G 30 u.2.2)])
set_option maxHeartbeats 4000000 in
set_option maxRecDepth 100000 in
theorem m_from12 (l : Launch) (G : GG) (h0 : Nat) (xx : Int32) (nw : Nat) (nk : Nat) (mhasKept : Int32) (nt : Nat) (mtaped : Int32) (nr : Nat) (mrowMany : Int32) (mroundOf : Int32) (mroundFrom : Int32) (mouts : Int32) (nm : Nat) (mfromHour : Int32) (mtoHour : Int32) (ns : Nat) (mfrom : Int32) (mto : Int32) (msort : Int32) (misFault : Int32) (mdeep : Int32) (mcoded : Int32) (mlines : Int32) (nl : Nat) (nc : Nat) (nF : Nat) (np : Nat) (ntr : Nat) (nb : Nat) (mbestCost : Int32) (nso : Nat) (nsi : Nat) (nit : Nat) (nsh : Nat) (nsf : Nat) (nss : Nat) (nrc : Nat) (jr : Nat) (jd : Nat) (mnumber : Int32) (mwhose : Int32) (msize : Int32) (misParted : Int32) (fnrc : Nat → Int32) (hjr : jr ≤ 30) (hjd : jd < 7) : K_m_from12 l G h0 xx nw nk mhasKept nt mtaped nr mrowMany mroundOf mroundFrom mouts nm mfromHour mtoHour ns mfrom mto msort misFault mdeep mcoded mlines nl nc nF np ntr nb mbestCost nso nsi nit nsh nsf nss nrc jr jd mnumber mwhose msize misParted fnrc := by
  refine MI.start (by decide +kernel) (Nat.le_of_ble_eq_true rfl) ?_
  intro p e s m below meth c A ls hC hK hP hD hS hA hl
  refine absQ (fun Q0 hQ0 => ?_)
  have hl : lv_has ls 5 [(0, .ref h0), (1, .int 1), (2, .int 2), (3, .int xx)] := hl
  refine Kan8 hC (fun hx hb hr hml hB hown hlocks hnm => ?_)
  refine lv_iload_n hx hb gX12_bodyFrom_0.1 rfl (lv_at1 hl) ?_
  refine lv_istore (lv' := [(4, .int 1), (0, .ref h0), (1, .int 1), (2, .int 2), (3, .int xx)]) hx hb gX12_bodyFrom_0.2.1 hl (by decide) rfl (fun ls hl => ?_)
  refine lv_iload hx hb gX12_bodyFrom_0.2.2.1 (lv_at0 hl) ?_
  refine lv_iload_n hx hb gX12_bodyFrom_0.2.2.2.1 rfl (lv_at3 hl) ?_
  refine pS hC hK hl (m_hasOwn12 l G) si_X12_360 rfl rfl (Nat.le_of_ble_eq_true rfl) rm_36_1_2 ⟨by first | exact Nat.le_of_ble_eq_true rfl | exact Nat.zero_le _, by first | exact Nat.le_of_ble_eq_true rfl | exact Nat.zero_le _⟩ gX12_bodyFrom_0.2.2.2.2.1 (Keqr ?_)
  refine lv_if_ne (tgt := 22) hx hb gX12_bodyFrom_0.2.2.2.2.2.1 (by decide) (fun c9 => absurd (by decide) c9) (fun _ => ?_)
  refine lv_iload hx hb gX12_bodyFrom_0.2.2.2.2.2.2.1 (lv_at0 hl) ?_
  refine pS hC hK hl (m_above1 l G) si_X12_348 rfl rfl (Nat.le_of_ble_eq_true rfl) rm_36_1_1 ⟨by first | exact Nat.le_of_ble_eq_true rfl | exact Nat.zero_le _, by first | exact Nat.le_of_ble_eq_true rfl | exact Nat.zero_le _⟩ gX12_bodyFrom_0.2.2.2.2.2.2.2.1 (Keqr ?_)
  refine lv_istore (lv' := [(4, .int 0), (0, .ref h0), (1, .int 1), (2, .int 2), (3, .int xx)]) hx hb gX12_bodyFrom_0.2.2.2.2.2.2.2.2.1 hl (by decide) rfl (fun ls hl => ?_)
  refine lv_goto (tgt := 3) hx hb gX12_bodyFrom_0.2.2.2.2.2.2.2.2.2 (by decide) ?_
  refine lv_iload hx hb gX12_bodyFrom_0.2.2.1 (lv_at0 hl) ?_
  refine lv_iload_n hx hb gX12_bodyFrom_0.2.2.2.1 rfl (lv_at3 hl) ?_
  refine pS hC hK hl (m_hasOwn02 l G) si_X12_360 rfl rfl (Nat.le_of_ble_eq_true rfl) rm_36_1_2 ⟨by first | exact Nat.le_of_ble_eq_true rfl | exact Nat.zero_le _, by first | exact Nat.le_of_ble_eq_true rfl | exact Nat.zero_le _⟩ gX12_bodyFrom_0.2.2.2.2.1 (Keqr ?_)
  refine lv_if_ne (tgt := 22) hx hb gX12_bodyFrom_0.2.2.2.2.2.1 (by decide) (fun _ => ?_) (fun c9 => absurd c9 (by decide))
  refine lv_aload_n hx hb gX12_bodyFrom_1.1 rfl (lv_at1 hl) ?_
  refine lv_iload hx hb gX12_bodyFrom_1.2.1 (lv_at0 hl) ?_
  refine lv_iload_n hx hb gX12_bodyFrom_1.2.2.1 rfl (lv_at3 hl) ?_
  refine lv_iload_n hx hb gX12_bodyFrom_1.2.2.2.1 rfl (lv_at4 hl) ?_
  refine iV (wr := []) hC hK hl hP hD hS hA (m_body02 l G h0 xx nw nk mhasKept nt mtaped nr mrowMany mroundOf mroundFrom mouts nm mfromHour mtoHour ns mfrom mto msort misFault mdeep mcoded mlines nl nc nF np ntr nb mbestCost nso nsi nit nsh nsf nss nrc jr jd mnumber mwhose msize misParted fnrc (hjr) (hjd)) si_X12_363 [0, 1] [] sm_0_1 fm_0_1 nd_0_1 rfl rfl (by decide) rfl rfl rfl rfl rfl (Nat.le_of_ble_eq_true rfl) rm_36_27_6 ⟨Nat.le_of_ble_eq_true rfl, Nat.le_of_ble_eq_true rfl⟩ gX12_bodyFrom_1.2.2.2.2.1 (fun r5974 => Ktu3 fun jr15976 ip15977 gtrc5978 => ?_)
  intro H locs hr5974 hP hD hS
  try dsimp only at hr5974
  refine Kpdr (ws := [(h0, oX12 nw nk mhasKept nt mtaped nr mrowMany mroundOf mroundFrom mouts nm mfromHour mtoHour ns mfrom mto msort misFault mdeep mcoded mlines nl nc nF np ntr nb mbestCost nso nsi nit nsh nsf nss nrc (nI jr15976) (nI jd) mnumber mwhose msize ip15977), (nrc, iA G 30 gtrc5978)]) hP hD (fun hP hD => ?_)
  obtain ⟨hr5974, w5979⟩ := hr5974
  refine toQ hQ0 ?_
  exact RI (v := r5974) hC hP hD hS [0, 1] (jr15976, ip15977, gtrc5978) rfl rfl (by decide) (⟨trivial, by omega⟩) rfl gX12_bodyFrom_1.2.2.2.2.2
def K_m_from32 (l : Launch) (G : GG) (h0 : Nat) (xx : Int32) (nw : Nat) (nk : Nat) (mhasKept : Int32) (nt : Nat) (mtaped : Int32) (nr : Nat) (mrowMany : Int32) (mroundOf : Int32) (mroundFrom : Int32) (mouts : Int32) (nm : Nat) (mfromHour : Int32) (mtoHour : Int32) (ns : Nat) (mfrom : Int32) (mto : Int32) (msort : Int32) (misFault : Int32) (mdeep : Int32) (mcoded : Int32) (mlines : Int32) (nl : Nat) (nc : Nat) (nF : Nat) (np : Nat) (ntr : Nat) (nb : Nat) (mbestCost : Int32) (nso : Nat) (nsi : Nat) (nit : Nat) (nsh : Nat) (nsf : Nat) (nss : Nat) (nrc : Nat) (jr : Nat) (jd : Nat) (mnumber : Int32) (mwhose : Int32) (msize : Int32) (misParted : Int32) (fnrc : Nat → Int32) : Prop := MI l G yX12_bodyFrom cX12_bodyFrom 5 (some .int) 36 0 0 [.ref h0, .int 3, .int 2, .int xx] [(h0, oX12 nw nk mhasKept nt mtaped nr mrowMany mroundOf mroundFrom mouts nm mfromHour mtoHour ns mfrom mto msort misFault mdeep mcoded mlines nl nc nF np ntr nb mbestCost nso nsi nit nsh nsf nss nrc (nI jr) (nI jd) mnumber mwhose msize misParted), (nrc, iA G 30 fnrc)] (fun (r : Int32) (u : Nat × Int32 × (Nat → Int32)) => (True) ∧ (u.1 ≤ 30)) (fun u : Nat × Int32 × (Nat → Int32) => [(h0, oX12 nw nk mhasKept nt mtaped nr mrowMany mroundOf mroundFrom mouts nm mfromHour mtoHour ns mfrom mto msort misFault mdeep mcoded mlines nl nc nF np ntr nb mbestCost nso nsi nit nsh nsf nss nrc (nI u.1) (nI jd) mnumber mwhose msize u.2.1), (nrc, iA G 30 u.2.2)])
set_option maxHeartbeats 4000000 in
set_option maxRecDepth 100000 in
theorem m_from32 (l : Launch) (G : GG) (h0 : Nat) (xx : Int32) (nw : Nat) (nk : Nat) (mhasKept : Int32) (nt : Nat) (mtaped : Int32) (nr : Nat) (mrowMany : Int32) (mroundOf : Int32) (mroundFrom : Int32) (mouts : Int32) (nm : Nat) (mfromHour : Int32) (mtoHour : Int32) (ns : Nat) (mfrom : Int32) (mto : Int32) (msort : Int32) (misFault : Int32) (mdeep : Int32) (mcoded : Int32) (mlines : Int32) (nl : Nat) (nc : Nat) (nF : Nat) (np : Nat) (ntr : Nat) (nb : Nat) (mbestCost : Int32) (nso : Nat) (nsi : Nat) (nit : Nat) (nsh : Nat) (nsf : Nat) (nss : Nat) (nrc : Nat) (jr : Nat) (jd : Nat) (mnumber : Int32) (mwhose : Int32) (msize : Int32) (misParted : Int32) (fnrc : Nat → Int32) (hjr : jr ≤ 30) (hjd : jd < 7) : K_m_from32 l G h0 xx nw nk mhasKept nt mtaped nr mrowMany mroundOf mroundFrom mouts nm mfromHour mtoHour ns mfrom mto msort misFault mdeep mcoded mlines nl nc nF np ntr nb mbestCost nso nsi nit nsh nsf nss nrc jr jd mnumber mwhose msize misParted fnrc := by
  refine MI.start (by decide +kernel) (Nat.le_of_ble_eq_true rfl) ?_
  intro p e s m below meth c A ls hC hK hP hD hS hA hl
  refine absQ (fun Q0 hQ0 => ?_)
  have hl : lv_has ls 5 [(0, .ref h0), (1, .int 3), (2, .int 2), (3, .int xx)] := hl
  refine Kan8 hC (fun hx hb hr hml hB hown hlocks hnm => ?_)
  refine lv_iload_n hx hb gX12_bodyFrom_0.1 rfl (lv_at1 hl) ?_
  refine lv_istore (lv' := [(4, .int 3), (0, .ref h0), (1, .int 3), (2, .int 2), (3, .int xx)]) hx hb gX12_bodyFrom_0.2.1 hl (by decide) rfl (fun ls hl => ?_)
  refine lv_iload hx hb gX12_bodyFrom_0.2.2.1 (lv_at0 hl) ?_
  refine lv_iload_n hx hb gX12_bodyFrom_0.2.2.2.1 rfl (lv_at3 hl) ?_
  refine pS hC hK hl (m_hasOwn32 l G) si_X12_360 rfl rfl (Nat.le_of_ble_eq_true rfl) rm_36_1_2 ⟨by first | exact Nat.le_of_ble_eq_true rfl | exact Nat.zero_le _, by first | exact Nat.le_of_ble_eq_true rfl | exact Nat.zero_le _⟩ gX12_bodyFrom_0.2.2.2.2.1 (Keqr ?_)
  refine lv_if_ne (tgt := 22) hx hb gX12_bodyFrom_0.2.2.2.2.2.1 (by decide) (fun c9 => absurd (by decide) c9) (fun _ => ?_)
  refine lv_iload hx hb gX12_bodyFrom_0.2.2.2.2.2.2.1 (lv_at0 hl) ?_
  refine pS hC hK hl (m_above3 l G) si_X12_348 rfl rfl (Nat.le_of_ble_eq_true rfl) rm_36_1_1 ⟨by first | exact Nat.le_of_ble_eq_true rfl | exact Nat.zero_le _, by first | exact Nat.le_of_ble_eq_true rfl | exact Nat.zero_le _⟩ gX12_bodyFrom_0.2.2.2.2.2.2.2.1 (Keqr ?_)
  refine lv_istore (lv' := [(4, .int 1), (0, .ref h0), (1, .int 3), (2, .int 2), (3, .int xx)]) hx hb gX12_bodyFrom_0.2.2.2.2.2.2.2.2.1 hl (by decide) rfl (fun ls hl => ?_)
  refine lv_goto (tgt := 3) hx hb gX12_bodyFrom_0.2.2.2.2.2.2.2.2.2 (by decide) ?_
  refine lv_iload hx hb gX12_bodyFrom_0.2.2.1 (lv_at0 hl) ?_
  refine lv_iload_n hx hb gX12_bodyFrom_0.2.2.2.1 rfl (lv_at3 hl) ?_
  refine pS hC hK hl (m_hasOwn12 l G) si_X12_360 rfl rfl (Nat.le_of_ble_eq_true rfl) rm_36_1_2 ⟨by first | exact Nat.le_of_ble_eq_true rfl | exact Nat.zero_le _, by first | exact Nat.le_of_ble_eq_true rfl | exact Nat.zero_le _⟩ gX12_bodyFrom_0.2.2.2.2.1 (Keqr ?_)
  refine lv_if_ne (tgt := 22) hx hb gX12_bodyFrom_0.2.2.2.2.2.1 (by decide) (fun c9 => absurd (by decide) c9) (fun _ => ?_)
  refine lv_iload hx hb gX12_bodyFrom_0.2.2.2.2.2.2.1 (lv_at0 hl) ?_
  refine pS hC hK hl (m_above1 l G) si_X12_348 rfl rfl (Nat.le_of_ble_eq_true rfl) rm_36_1_1 ⟨by first | exact Nat.le_of_ble_eq_true rfl | exact Nat.zero_le _, by first | exact Nat.le_of_ble_eq_true rfl | exact Nat.zero_le _⟩ gX12_bodyFrom_0.2.2.2.2.2.2.2.1 (Keqr ?_)
  refine lv_istore (lv' := [(4, .int 0), (0, .ref h0), (1, .int 3), (2, .int 2), (3, .int xx)]) hx hb gX12_bodyFrom_0.2.2.2.2.2.2.2.2.1 hl (by decide) rfl (fun ls hl => ?_)
  refine lv_goto (tgt := 3) hx hb gX12_bodyFrom_0.2.2.2.2.2.2.2.2.2 (by decide) ?_
  refine lv_iload hx hb gX12_bodyFrom_0.2.2.1 (lv_at0 hl) ?_
  refine lv_iload_n hx hb gX12_bodyFrom_0.2.2.2.1 rfl (lv_at3 hl) ?_
  refine pS hC hK hl (m_hasOwn02 l G) si_X12_360 rfl rfl (Nat.le_of_ble_eq_true rfl) rm_36_1_2 ⟨by first | exact Nat.le_of_ble_eq_true rfl | exact Nat.zero_le _, by first | exact Nat.le_of_ble_eq_true rfl | exact Nat.zero_le _⟩ gX12_bodyFrom_0.2.2.2.2.1 (Keqr ?_)
  refine lv_if_ne (tgt := 22) hx hb gX12_bodyFrom_0.2.2.2.2.2.1 (by decide) (fun _ => ?_) (fun c9 => absurd c9 (by decide))
  refine lv_aload_n hx hb gX12_bodyFrom_1.1 rfl (lv_at1 hl) ?_
  refine lv_iload hx hb gX12_bodyFrom_1.2.1 (lv_at0 hl) ?_
  refine lv_iload_n hx hb gX12_bodyFrom_1.2.2.1 rfl (lv_at3 hl) ?_
  refine lv_iload_n hx hb gX12_bodyFrom_1.2.2.2.1 rfl (lv_at4 hl) ?_
  refine iV (wr := []) hC hK hl hP hD hS hA (m_body02 l G h0 xx nw nk mhasKept nt mtaped nr mrowMany mroundOf mroundFrom mouts nm mfromHour mtoHour ns mfrom mto msort misFault mdeep mcoded mlines nl nc nF np ntr nb mbestCost nso nsi nit nsh nsf nss nrc jr jd mnumber mwhose msize misParted fnrc (hjr) (hjd)) si_X12_363 [0, 1] [] sm_0_1 fm_0_1 nd_0_1 rfl rfl (by decide) rfl rfl rfl rfl rfl (Nat.le_of_ble_eq_true rfl) rm_36_27_6 ⟨Nat.le_of_ble_eq_true rfl, Nat.le_of_ble_eq_true rfl⟩ gX12_bodyFrom_1.2.2.2.2.1 (fun r5990 => Ktu3 fun jr15992 ip15993 gtrc5994 => ?_)
  intro H locs hr5990 hP hD hS
  try dsimp only at hr5990
  refine Kpdr (ws := [(h0, oX12 nw nk mhasKept nt mtaped nr mrowMany mroundOf mroundFrom mouts nm mfromHour mtoHour ns mfrom mto msort misFault mdeep mcoded mlines nl nc nF np ntr nb mbestCost nso nsi nit nsh nsf nss nrc (nI jr15992) (nI jd) mnumber mwhose msize ip15993), (nrc, iA G 30 gtrc5994)]) hP hD (fun hP hD => ?_)
  obtain ⟨hr5990, w5995⟩ := hr5990
  refine toQ hQ0 ?_
  exact RI (v := r5990) hC hP hD hS [0, 1] (jr15992, ip15993, gtrc5994) rfl rfl (by decide) (⟨trivial, by omega⟩) rfl gX12_bodyFrom_1.2.2.2.2.2
def K_m_from62 (l : Launch) (G : GG) (h0 : Nat) (xx : Int32) (nw : Nat) (nk : Nat) (mhasKept : Int32) (nt : Nat) (mtaped : Int32) (nr : Nat) (mrowMany : Int32) (mroundOf : Int32) (mroundFrom : Int32) (mouts : Int32) (nm : Nat) (mfromHour : Int32) (mtoHour : Int32) (ns : Nat) (mfrom : Int32) (mto : Int32) (msort : Int32) (misFault : Int32) (mdeep : Int32) (mcoded : Int32) (mlines : Int32) (nl : Nat) (nc : Nat) (nF : Nat) (np : Nat) (ntr : Nat) (nb : Nat) (mbestCost : Int32) (nso : Nat) (nsi : Nat) (nit : Nat) (nsh : Nat) (nsf : Nat) (nss : Nat) (nrc : Nat) (jr : Nat) (jd : Nat) (mnumber : Int32) (mwhose : Int32) (msize : Int32) (misParted : Int32) (fnrc : Nat → Int32) : Prop := MI l G yX12_bodyFrom cX12_bodyFrom 5 (some .int) 36 0 0 [.ref h0, .int 6, .int 2, .int xx] [(h0, oX12 nw nk mhasKept nt mtaped nr mrowMany mroundOf mroundFrom mouts nm mfromHour mtoHour ns mfrom mto msort misFault mdeep mcoded mlines nl nc nF np ntr nb mbestCost nso nsi nit nsh nsf nss nrc (nI jr) (nI jd) mnumber mwhose msize misParted), (nrc, iA G 30 fnrc)] (fun (r : Int32) (u : Nat × Int32 × (Nat → Int32)) => (True) ∧ (u.1 ≤ 30)) (fun u : Nat × Int32 × (Nat → Int32) => [(h0, oX12 nw nk mhasKept nt mtaped nr mrowMany mroundOf mroundFrom mouts nm mfromHour mtoHour ns mfrom mto msort misFault mdeep mcoded mlines nl nc nF np ntr nb mbestCost nso nsi nit nsh nsf nss nrc (nI u.1) (nI jd) mnumber mwhose msize u.2.1), (nrc, iA G 30 u.2.2)])
set_option maxHeartbeats 4000000 in
set_option maxRecDepth 100000 in
theorem m_from62 (l : Launch) (G : GG) (h0 : Nat) (xx : Int32) (nw : Nat) (nk : Nat) (mhasKept : Int32) (nt : Nat) (mtaped : Int32) (nr : Nat) (mrowMany : Int32) (mroundOf : Int32) (mroundFrom : Int32) (mouts : Int32) (nm : Nat) (mfromHour : Int32) (mtoHour : Int32) (ns : Nat) (mfrom : Int32) (mto : Int32) (msort : Int32) (misFault : Int32) (mdeep : Int32) (mcoded : Int32) (mlines : Int32) (nl : Nat) (nc : Nat) (nF : Nat) (np : Nat) (ntr : Nat) (nb : Nat) (mbestCost : Int32) (nso : Nat) (nsi : Nat) (nit : Nat) (nsh : Nat) (nsf : Nat) (nss : Nat) (nrc : Nat) (jr : Nat) (jd : Nat) (mnumber : Int32) (mwhose : Int32) (msize : Int32) (misParted : Int32) (fnrc : Nat → Int32) (hjr : jr ≤ 30) (hjd : jd < 7) : K_m_from62 l G h0 xx nw nk mhasKept nt mtaped nr mrowMany mroundOf mroundFrom mouts nm mfromHour mtoHour ns mfrom mto msort misFault mdeep mcoded mlines nl nc nF np ntr nb mbestCost nso nsi nit nsh nsf nss nrc jr jd mnumber mwhose msize misParted fnrc := by
  refine MI.start (by decide +kernel) (Nat.le_of_ble_eq_true rfl) ?_
  intro p e s m below meth c A ls hC hK hP hD hS hA hl
  refine absQ (fun Q0 hQ0 => ?_)
  have hl : lv_has ls 5 [(0, .ref h0), (1, .int 6), (2, .int 2), (3, .int xx)] := hl
  refine Kan8 hC (fun hx hb hr hml hB hown hlocks hnm => ?_)
  refine lv_iload_n hx hb gX12_bodyFrom_0.1 rfl (lv_at1 hl) ?_
  refine lv_istore (lv' := [(4, .int 6), (0, .ref h0), (1, .int 6), (2, .int 2), (3, .int xx)]) hx hb gX12_bodyFrom_0.2.1 hl (by decide) rfl (fun ls hl => ?_)
  refine lv_iload hx hb gX12_bodyFrom_0.2.2.1 (lv_at0 hl) ?_
  refine lv_iload_n hx hb gX12_bodyFrom_0.2.2.2.1 rfl (lv_at3 hl) ?_
  refine pS hC hK hl (m_hasOwn62 l G) si_X12_360 rfl rfl (Nat.le_of_ble_eq_true rfl) rm_36_1_2 ⟨by first | exact Nat.le_of_ble_eq_true rfl | exact Nat.zero_le _, by first | exact Nat.le_of_ble_eq_true rfl | exact Nat.zero_le _⟩ gX12_bodyFrom_0.2.2.2.2.1 (Keqr ?_)
  refine lv_if_ne (tgt := 22) hx hb gX12_bodyFrom_0.2.2.2.2.2.1 (by decide) (fun c9 => absurd (by decide) c9) (fun _ => ?_)
  refine lv_iload hx hb gX12_bodyFrom_0.2.2.2.2.2.2.1 (lv_at0 hl) ?_
  refine pS hC hK hl (m_above6 l G) si_X12_348 rfl rfl (Nat.le_of_ble_eq_true rfl) rm_36_1_1 ⟨by first | exact Nat.le_of_ble_eq_true rfl | exact Nat.zero_le _, by first | exact Nat.le_of_ble_eq_true rfl | exact Nat.zero_le _⟩ gX12_bodyFrom_0.2.2.2.2.2.2.2.1 (Keqr ?_)
  refine lv_istore (lv' := [(4, .int 0), (0, .ref h0), (1, .int 6), (2, .int 2), (3, .int xx)]) hx hb gX12_bodyFrom_0.2.2.2.2.2.2.2.2.1 hl (by decide) rfl (fun ls hl => ?_)
  refine lv_goto (tgt := 3) hx hb gX12_bodyFrom_0.2.2.2.2.2.2.2.2.2 (by decide) ?_
  refine lv_iload hx hb gX12_bodyFrom_0.2.2.1 (lv_at0 hl) ?_
  refine lv_iload_n hx hb gX12_bodyFrom_0.2.2.2.1 rfl (lv_at3 hl) ?_
  refine pS hC hK hl (m_hasOwn02 l G) si_X12_360 rfl rfl (Nat.le_of_ble_eq_true rfl) rm_36_1_2 ⟨by first | exact Nat.le_of_ble_eq_true rfl | exact Nat.zero_le _, by first | exact Nat.le_of_ble_eq_true rfl | exact Nat.zero_le _⟩ gX12_bodyFrom_0.2.2.2.2.1 (Keqr ?_)
  refine lv_if_ne (tgt := 22) hx hb gX12_bodyFrom_0.2.2.2.2.2.1 (by decide) (fun _ => ?_) (fun c9 => absurd c9 (by decide))
  refine lv_aload_n hx hb gX12_bodyFrom_1.1 rfl (lv_at1 hl) ?_
  refine lv_iload hx hb gX12_bodyFrom_1.2.1 (lv_at0 hl) ?_
  refine lv_iload_n hx hb gX12_bodyFrom_1.2.2.1 rfl (lv_at3 hl) ?_
  refine lv_iload_n hx hb gX12_bodyFrom_1.2.2.2.1 rfl (lv_at4 hl) ?_
  refine iV (wr := []) hC hK hl hP hD hS hA (m_body02 l G h0 xx nw nk mhasKept nt mtaped nr mrowMany mroundOf mroundFrom mouts nm mfromHour mtoHour ns mfrom mto msort misFault mdeep mcoded mlines nl nc nF np ntr nb mbestCost nso nsi nit nsh nsf nss nrc jr jd mnumber mwhose msize misParted fnrc (hjr) (hjd)) si_X12_363 [0, 1] [] sm_0_1 fm_0_1 nd_0_1 rfl rfl (by decide) rfl rfl rfl rfl rfl (Nat.le_of_ble_eq_true rfl) rm_36_27_6 ⟨Nat.le_of_ble_eq_true rfl, Nat.le_of_ble_eq_true rfl⟩ gX12_bodyFrom_1.2.2.2.2.1 (fun r6002 => Ktu3 fun jr16004 ip16005 gtrc6006 => ?_)
  intro H locs hr6002 hP hD hS
  try dsimp only at hr6002
  refine Kpdr (ws := [(h0, oX12 nw nk mhasKept nt mtaped nr mrowMany mroundOf mroundFrom mouts nm mfromHour mtoHour ns mfrom mto msort misFault mdeep mcoded mlines nl nc nF np ntr nb mbestCost nso nsi nit nsh nsf nss nrc (nI jr16004) (nI jd) mnumber mwhose msize ip16005), (nrc, iA G 30 gtrc6006)]) hP hD (fun hP hD => ?_)
  obtain ⟨hr6002, w6007⟩ := hr6002
  refine toQ hQ0 ?_
  exact RI (v := r6002) hC hP hD hS [0, 1] (jr16004, ip16005, gtrc6006) rfl rfl (by decide) (⟨trivial, by omega⟩) rfl gX12_bodyFrom_1.2.2.2.2.2
def K_m_dealt2 (l : Launch) (G : GG) (h0 : Nat) (xx : Int32) (nw : Nat) (nk : Nat) (mhasKept : Int32) (nt : Nat) (mtaped : Int32) (nr : Nat) (mrowMany : Int32) (mroundOf : Int32) (mroundFrom : Int32) (mouts : Int32) (nm : Nat) (mfromHour : Int32) (mtoHour : Int32) (ns : Nat) (mfrom : Int32) (mto : Int32) (msort : Int32) (misFault : Int32) (mdeep : Int32) (mcoded : Int32) (mlines : Int32) (nl : Nat) (nc : Nat) (nF : Nat) (np : Nat) (ntr : Nat) (nb : Nat) (mbestCost : Int32) (nso : Nat) (nsi : Nat) (nit : Nat) (nsh : Nat) (nsf : Nat) (nss : Nat) (nrc : Nat) (jr : Nat) (jd : Nat) (mnumber : Int32) (mwhose : Int32) (msize : Int32) (misParted : Int32) (fnrc : Nat → Int32) : Prop := MI l G yX12_dealt cX12_dealt 3 (some .int) 38 0 0 [.ref h0, .int 2, .int xx] [(h0, oX12 nw nk mhasKept nt mtaped nr mrowMany mroundOf mroundFrom mouts nm mfromHour mtoHour ns mfrom mto msort misFault mdeep mcoded mlines nl nc nF np ntr nb mbestCost nso nsi nit nsh nsf nss nrc (nI jr) (nI jd) mnumber mwhose msize misParted), (nrc, iA G 30 fnrc)] (fun (r : Int32) (u : Nat × Int32 × (Nat → Int32)) => (True) ∧ (u.1 ≤ 30)) (fun u : Nat × Int32 × (Nat → Int32) => [(h0, oX12 nw nk mhasKept nt mtaped nr mrowMany mroundOf mroundFrom mouts nm mfromHour mtoHour ns mfrom mto msort misFault mdeep mcoded mlines nl nc nF np ntr nb mbestCost nso nsi nit nsh nsf nss nrc (nI u.1) (nI jd) mnumber mwhose msize u.2.1), (nrc, iA G 30 u.2.2)])
set_option maxHeartbeats 4000000 in
set_option maxRecDepth 100000 in
theorem m_dealt2 (l : Launch) (G : GG) (h0 : Nat) (xx : Int32) (nw : Nat) (nk : Nat) (mhasKept : Int32) (nt : Nat) (mtaped : Int32) (nr : Nat) (mrowMany : Int32) (mroundOf : Int32) (mroundFrom : Int32) (mouts : Int32) (nm : Nat) (mfromHour : Int32) (mtoHour : Int32) (ns : Nat) (mfrom : Int32) (mto : Int32) (msort : Int32) (misFault : Int32) (mdeep : Int32) (mcoded : Int32) (mlines : Int32) (nl : Nat) (nc : Nat) (nF : Nat) (np : Nat) (ntr : Nat) (nb : Nat) (mbestCost : Int32) (nso : Nat) (nsi : Nat) (nit : Nat) (nsh : Nat) (nsf : Nat) (nss : Nat) (nrc : Nat) (jr : Nat) (jd : Nat) (mnumber : Int32) (mwhose : Int32) (msize : Int32) (misParted : Int32) (fnrc : Nat → Int32) (hjr : jr ≤ 30) (hjd : jd < 7) : K_m_dealt2 l G h0 xx nw nk mhasKept nt mtaped nr mrowMany mroundOf mroundFrom mouts nm mfromHour mtoHour ns mfrom mto msort misFault mdeep mcoded mlines nl nc nF np ntr nb mbestCost nso nsi nit nsh nsf nss nrc jr jd mnumber mwhose msize misParted fnrc := by
  refine MI.start (by decide +kernel) (Nat.le_of_ble_eq_true rfl) ?_
  intro p e s m below meth c A ls hC hK hP hD hS hA hl
  refine absQ (fun Q0 hQ0 => ?_)
  have hl : lv_has ls 3 [(0, .ref h0), (1, .int 2), (2, .int xx)] := hl
  refine Kan8 hC (fun hx hb hr hml hB hown hlocks hnm => ?_)
  refine lv_aload_n hx hb gX12_dealt_0.1 rfl (lv_at0 hl) ?_
  refine lv_aload_n hx hb gX12_dealt_0.2.1 rfl (lv_at0 hl) ?_
  refine gf_X12_354 hC rfl hK hP 0 rfl rfl gX12_dealt_0.2.2.1 ?_
  refine lv_iload_n hx hb gX12_dealt_0.2.2.2.1 rfl (lv_at1 hl) ?_
  refine lv_iload_n hx hb gX12_dealt_0.2.2.2.2.1 rfl (lv_at2 hl) ?_
  rcases (show jd = 0 ∨ jd = 1 ∨ jd = 2 ∨ jd = 3 ∨ jd = 4 ∨ jd = 5 ∨ jd = 6 by omega) with rfl | rfl | rfl | rfl | rfl | rfl | rfl
  · refine iV (wr := []) hC hK hl hP hD hS hA (m_from02 l G h0 xx nw nk mhasKept nt mtaped nr mrowMany mroundOf mroundFrom mouts nm mfromHour mtoHour ns mfrom mto msort misFault mdeep mcoded mlines nl nc nF np ntr nb mbestCost nso nsi nit nsh nsf nss nrc jr 0 mnumber mwhose msize misParted fnrc (hjr) (hjd)) si_X12_357 [0, 1] [] sm_0_1 fm_0_1 nd_0_1 rfl rfl (by decide) rfl rfl rfl rfl rfl (Nat.le_of_ble_eq_true rfl) rm_38_28_5 ⟨Nat.le_of_ble_eq_true rfl, Nat.le_of_ble_eq_true rfl⟩ gX12_dealt_0.2.2.2.2.2.1 (fun r6008 => Ktu3 fun jr16010 ip16011 gtrc6012 => ?_)
    intro H locs hr6008 hP hD hS
    try dsimp only at hr6008
    refine Kpdr (ws := [(h0, oX12 nw nk mhasKept nt mtaped nr mrowMany mroundOf mroundFrom mouts nm mfromHour mtoHour ns mfrom mto msort misFault mdeep mcoded mlines nl nc nF np ntr nb mbestCost nso nsi nit nsh nsf nss nrc (nI jr16010) 0 mnumber mwhose msize ip16011), (nrc, iA G 30 gtrc6012)]) hP hD (fun hP hD => ?_)
    obtain ⟨hr6008, w6013⟩ := hr6008
    refine toQ hQ0 ?_
    exact RI (v := r6008) hC hP hD hS [0, 1] (jr16010, ip16011, gtrc6012) rfl rfl (by decide) (⟨trivial, by omega⟩) rfl gX12_dealt_0.2.2.2.2.2.2
  · refine iV (wr := []) hC hK hl hP hD hS hA (m_from12 l G h0 xx nw nk mhasKept nt mtaped nr mrowMany mroundOf mroundFrom mouts nm mfromHour mtoHour ns mfrom mto msort misFault mdeep mcoded mlines nl nc nF np ntr nb mbestCost nso nsi nit nsh nsf nss nrc jr 1 mnumber mwhose msize misParted fnrc (hjr) (hjd)) si_X12_357 [0, 1] [] sm_0_1 fm_0_1 nd_0_1 rfl rfl (by decide) rfl rfl rfl rfl rfl (Nat.le_of_ble_eq_true rfl) rm_38_36_5 ⟨Nat.le_of_ble_eq_true rfl, Nat.le_of_ble_eq_true rfl⟩ gX12_dealt_0.2.2.2.2.2.1 (fun r6014 => Ktu3 fun jr16016 ip16017 gtrc6018 => ?_)
    intro H locs hr6014 hP hD hS
    try dsimp only at hr6014
    refine Kpdr (ws := [(h0, oX12 nw nk mhasKept nt mtaped nr mrowMany mroundOf mroundFrom mouts nm mfromHour mtoHour ns mfrom mto msort misFault mdeep mcoded mlines nl nc nF np ntr nb mbestCost nso nsi nit nsh nsf nss nrc (nI jr16016) 1 mnumber mwhose msize ip16017), (nrc, iA G 30 gtrc6018)]) hP hD (fun hP hD => ?_)
    obtain ⟨hr6014, w6019⟩ := hr6014
    refine toQ hQ0 ?_
    exact RI (v := r6014) hC hP hD hS [0, 1] (jr16016, ip16017, gtrc6018) rfl rfl (by decide) (⟨trivial, by omega⟩) rfl gX12_dealt_0.2.2.2.2.2.2
  · refine iV (wr := []) hC hK hl hP hD hS hA (m_from22 l G h0 xx nw nk mhasKept nt mtaped nr mrowMany mroundOf mroundFrom mouts nm mfromHour mtoHour ns mfrom mto msort misFault mdeep mcoded mlines nl nc nF np ntr nb mbestCost nso nsi nit nsh nsf nss nrc jr 2 mnumber mwhose msize misParted fnrc (hjr) (hjd)) si_X12_357 [0, 1] [] sm_0_1 fm_0_1 nd_0_1 rfl rfl (by decide) rfl rfl rfl rfl rfl (Nat.le_of_ble_eq_true rfl) rm_38_30_5 ⟨Nat.le_of_ble_eq_true rfl, Nat.le_of_ble_eq_true rfl⟩ gX12_dealt_0.2.2.2.2.2.1 (fun r6020 => Ktu3 fun jr16022 ip16023 gtrc6024 => ?_)
    intro H locs hr6020 hP hD hS
    try dsimp only at hr6020
    refine Kpdr (ws := [(h0, oX12 nw nk mhasKept nt mtaped nr mrowMany mroundOf mroundFrom mouts nm mfromHour mtoHour ns mfrom mto msort misFault mdeep mcoded mlines nl nc nF np ntr nb mbestCost nso nsi nit nsh nsf nss nrc (nI jr16022) 2 mnumber mwhose msize ip16023), (nrc, iA G 30 gtrc6024)]) hP hD (fun hP hD => ?_)
    obtain ⟨hr6020, w6025⟩ := hr6020
    refine toQ hQ0 ?_
    exact RI (v := r6020) hC hP hD hS [0, 1] (jr16022, ip16023, gtrc6024) rfl rfl (by decide) (⟨trivial, by omega⟩) rfl gX12_dealt_0.2.2.2.2.2.2
  · refine iV (wr := []) hC hK hl hP hD hS hA (m_from32 l G h0 xx nw nk mhasKept nt mtaped nr mrowMany mroundOf mroundFrom mouts nm mfromHour mtoHour ns mfrom mto msort misFault mdeep mcoded mlines nl nc nF np ntr nb mbestCost nso nsi nit nsh nsf nss nrc jr 3 mnumber mwhose msize misParted fnrc (hjr) (hjd)) si_X12_357 [0, 1] [] sm_0_1 fm_0_1 nd_0_1 rfl rfl (by decide) rfl rfl rfl rfl rfl (Nat.le_of_ble_eq_true rfl) rm_38_36_5 ⟨Nat.le_of_ble_eq_true rfl, Nat.le_of_ble_eq_true rfl⟩ gX12_dealt_0.2.2.2.2.2.1 (fun r6026 => Ktu3 fun jr16028 ip16029 gtrc6030 => ?_)
    intro H locs hr6026 hP hD hS
    try dsimp only at hr6026
    refine Kpdr (ws := [(h0, oX12 nw nk mhasKept nt mtaped nr mrowMany mroundOf mroundFrom mouts nm mfromHour mtoHour ns mfrom mto msort misFault mdeep mcoded mlines nl nc nF np ntr nb mbestCost nso nsi nit nsh nsf nss nrc (nI jr16028) 3 mnumber mwhose msize ip16029), (nrc, iA G 30 gtrc6030)]) hP hD (fun hP hD => ?_)
    obtain ⟨hr6026, w6031⟩ := hr6026
    refine toQ hQ0 ?_
    exact RI (v := r6026) hC hP hD hS [0, 1] (jr16028, ip16029, gtrc6030) rfl rfl (by decide) (⟨trivial, by omega⟩) rfl gX12_dealt_0.2.2.2.2.2.2
  · refine iV (wr := []) hC hK hl hP hD hS hA (m_from42 l G h0 xx nw nk mhasKept nt mtaped nr mrowMany mroundOf mroundFrom mouts nm mfromHour mtoHour ns mfrom mto msort misFault mdeep mcoded mlines nl nc nF np ntr nb mbestCost nso nsi nit nsh nsf nss nrc jr 4 mnumber mwhose msize misParted fnrc (hjr) (hjd)) si_X12_357 [0, 1] [] sm_0_1 fm_0_1 nd_0_1 rfl rfl (by decide) rfl rfl rfl rfl rfl (Nat.le_of_ble_eq_true rfl) rm_38_32_5 ⟨Nat.le_of_ble_eq_true rfl, Nat.le_of_ble_eq_true rfl⟩ gX12_dealt_0.2.2.2.2.2.1 (fun r6032 => Ktu3 fun jr16034 ip16035 gtrc6036 => ?_)
    intro H locs hr6032 hP hD hS
    try dsimp only at hr6032
    refine Kpdr (ws := [(h0, oX12 nw nk mhasKept nt mtaped nr mrowMany mroundOf mroundFrom mouts nm mfromHour mtoHour ns mfrom mto msort misFault mdeep mcoded mlines nl nc nF np ntr nb mbestCost nso nsi nit nsh nsf nss nrc (nI jr16034) 4 mnumber mwhose msize ip16035), (nrc, iA G 30 gtrc6036)]) hP hD (fun hP hD => ?_)
    obtain ⟨hr6032, w6037⟩ := hr6032
    refine toQ hQ0 ?_
    exact RI (v := r6032) hC hP hD hS [0, 1] (jr16034, ip16035, gtrc6036) rfl rfl (by decide) (⟨trivial, by omega⟩) rfl gX12_dealt_0.2.2.2.2.2.2
  · refine iV (wr := []) hC hK hl hP hD hS hA (m_from52 l G h0 xx nw nk mhasKept nt mtaped nr mrowMany mroundOf mroundFrom mouts nm mfromHour mtoHour ns mfrom mto msort misFault mdeep mcoded mlines nl nc nF np ntr nb mbestCost nso nsi nit nsh nsf nss nrc jr 5 mnumber mwhose msize misParted fnrc (hjr) (hjd)) si_X12_357 [0, 1] [] sm_0_1 fm_0_1 nd_0_1 rfl rfl (by decide) rfl rfl rfl rfl rfl (Nat.le_of_ble_eq_true rfl) rm_38_34_5 ⟨Nat.le_of_ble_eq_true rfl, Nat.le_of_ble_eq_true rfl⟩ gX12_dealt_0.2.2.2.2.2.1 (fun r6038 => Ktu3 fun jr16040 ip16041 gtrc6042 => ?_)
    intro H locs hr6038 hP hD hS
    try dsimp only at hr6038
    refine Kpdr (ws := [(h0, oX12 nw nk mhasKept nt mtaped nr mrowMany mroundOf mroundFrom mouts nm mfromHour mtoHour ns mfrom mto msort misFault mdeep mcoded mlines nl nc nF np ntr nb mbestCost nso nsi nit nsh nsf nss nrc (nI jr16040) 5 mnumber mwhose msize ip16041), (nrc, iA G 30 gtrc6042)]) hP hD (fun hP hD => ?_)
    obtain ⟨hr6038, w6043⟩ := hr6038
    refine toQ hQ0 ?_
    exact RI (v := r6038) hC hP hD hS [0, 1] (jr16040, ip16041, gtrc6042) rfl rfl (by decide) (⟨trivial, by omega⟩) rfl gX12_dealt_0.2.2.2.2.2.2
  · refine iV (wr := []) hC hK hl hP hD hS hA (m_from62 l G h0 xx nw nk mhasKept nt mtaped nr mrowMany mroundOf mroundFrom mouts nm mfromHour mtoHour ns mfrom mto msort misFault mdeep mcoded mlines nl nc nF np ntr nb mbestCost nso nsi nit nsh nsf nss nrc jr 6 mnumber mwhose msize misParted fnrc (hjr) (hjd)) si_X12_357 [0, 1] [] sm_0_1 fm_0_1 nd_0_1 rfl rfl (by decide) rfl rfl rfl rfl rfl (Nat.le_of_ble_eq_true rfl) rm_38_36_5 ⟨Nat.le_of_ble_eq_true rfl, Nat.le_of_ble_eq_true rfl⟩ gX12_dealt_0.2.2.2.2.2.1 (fun r6044 => Ktu3 fun jr16046 ip16047 gtrc6048 => ?_)
    intro H locs hr6044 hP hD hS
    try dsimp only at hr6044
    refine Kpdr (ws := [(h0, oX12 nw nk mhasKept nt mtaped nr mrowMany mroundOf mroundFrom mouts nm mfromHour mtoHour ns mfrom mto msort misFault mdeep mcoded mlines nl nc nF np ntr nb mbestCost nso nsi nit nsh nsf nss nrc (nI jr16046) 6 mnumber mwhose msize ip16047), (nrc, iA G 30 gtrc6048)]) hP hD (fun hP hD => ?_)
    obtain ⟨hr6044, w6049⟩ := hr6044
    refine toQ hQ0 ?_
    exact RI (v := r6044) hC hP hD hS [0, 1] (jr16046, ip16047, gtrc6048) rfl rfl (by decide) (⟨trivial, by omega⟩) rfl gX12_dealt_0.2.2.2.2.2.2
def K_m_body03 (l : Launch) (G : GG) (h0 : Nat) (xx : Int32) (nw : Nat) (nk : Nat) (mhasKept : Int32) (nt : Nat) (mtaped : Int32) (nr : Nat) (mrowMany : Int32) (mroundOf : Int32) (mroundFrom : Int32) (mouts : Int32) (nm : Nat) (mfromHour : Int32) (mtoHour : Int32) (ns : Nat) (mfrom : Int32) (mto : Int32) (msort : Int32) (misFault : Int32) (mdeep : Int32) (mcoded : Int32) (mlines : Int32) (nl : Nat) (nc : Nat) (nF : Nat) (np : Nat) (ntr : Nat) (nb : Nat) (mbestCost : Int32) (nso : Nat) (nsi : Nat) (nit : Nat) (nsh : Nat) (nsf : Nat) (nss : Nat) (nrc : Nat) (jr : Nat) (jd : Nat) (mnumber : Int32) (mwhose : Int32) (msize : Int32) (misParted : Int32) (fnrc : Nat → Int32) : Prop := MI l G yX12_body cX12_body 6 (some .int) 39 0 0 [.ref h0, .int 0, .int 3, .int xx] [(h0, oX12 nw nk mhasKept nt mtaped nr mrowMany mroundOf mroundFrom mouts nm mfromHour mtoHour ns mfrom mto msort misFault mdeep mcoded mlines nl nc nF np ntr nb mbestCost nso nsi nit nsh nsf nss nrc (nI jr) (nI jd) mnumber mwhose msize misParted), (nrc, iA G 30 fnrc)] (fun (r : Int32) (u : Nat × Int32 × (Nat → Int32)) => (True) ∧ (u.1 ≤ 30)) (fun u : Nat × Int32 × (Nat → Int32) => [(h0, oX12 nw nk mhasKept nt mtaped nr mrowMany mroundOf mroundFrom mouts nm mfromHour mtoHour ns mfrom mto msort misFault mdeep mcoded mlines nl nc nF np ntr nb mbestCost nso nsi nit nsh nsf nss nrc (nI u.1) (nI jd) mnumber mwhose msize u.2.1), (nrc, iA G 30 u.2.2)])
set_option maxHeartbeats 4000000 in
set_option maxRecDepth 100000 in
theorem m_body03 (l : Launch) (G : GG) (h0 : Nat) (xx : Int32) (nw : Nat) (nk : Nat) (mhasKept : Int32) (nt : Nat) (mtaped : Int32) (nr : Nat) (mrowMany : Int32) (mroundOf : Int32) (mroundFrom : Int32) (mouts : Int32) (nm : Nat) (mfromHour : Int32) (mtoHour : Int32) (ns : Nat) (mfrom : Int32) (mto : Int32) (msort : Int32) (misFault : Int32) (mdeep : Int32) (mcoded : Int32) (mlines : Int32) (nl : Nat) (nc : Nat) (nF : Nat) (np : Nat) (ntr : Nat) (nb : Nat) (mbestCost : Int32) (nso : Nat) (nsi : Nat) (nit : Nat) (nsh : Nat) (nsf : Nat) (nss : Nat) (nrc : Nat) (jr : Nat) (jd : Nat) (mnumber : Int32) (mwhose : Int32) (msize : Int32) (misParted : Int32) (fnrc : Nat → Int32) (hjr : jr ≤ 30) (hjd : jd < 7) : K_m_body03 l G h0 xx nw nk mhasKept nt mtaped nr mrowMany mroundOf mroundFrom mouts nm mfromHour mtoHour ns mfrom mto msort misFault mdeep mcoded mlines nl nc nF np ntr nb mbestCost nso nsi nit nsh nsf nss nrc jr jd mnumber mwhose msize misParted fnrc := by
  refine MI.start (by decide +kernel) (Nat.le_of_ble_eq_true rfl) ?_
  intro p e s m below meth c A ls hC hK hP hD hS hA hl
  refine absQ (fun Q0 hQ0 => ?_)
  have hl : lv_has ls 6 [(0, .ref h0), (1, .int 0), (2, .int 3), (3, .int xx)] := hl
  refine Kan8 hC (fun hx hb hr hml hB hown hlocks hnm => ?_)
  refine lv_iconst (v := 4) hx hb gX12_body_0.1 (by decide) ?_
  refine lv_iload_n hx hb gX12_body_0.2.1 rfl (lv_at1 hl) ?_
  refine lv_imul hx hb gX12_body_0.2.2.1 ?_
  refine eqi (x1 := 0) (by decide) ?_
  refine lv_iload_n hx hb gX12_body_0.2.2.2.1 rfl (lv_at2 hl) ?_
  refine lv_iadd hx hb gX12_body_0.2.2.2.2.1 ?_
  refine eqi (x1 := 3) (by decide) ?_
  refine lv_tableIn (tgt := 158) hx hb gX12_body_0.2.2.2.2.2.1 (by decide) (by decide) rfl (by decide) ?_
  refine lv_aload_n hx hb gX12_body_3.2.2.2.2.2.1 rfl (lv_at0 hl) ?_
  refine lv_bipush (v := 13) hx hb gX12_body_3.2.2.2.2.2.2.1 (by decide) ?_
  refine vV (wr := []) hC hK hl hP hD hS hA (m_began l G h0 13 nw nk mhasKept nt mtaped nr mrowMany mroundOf mroundFrom mouts nm mfromHour mtoHour ns mfrom mto msort misFault mdeep mcoded mlines nl nc nF np ntr nb mbestCost nso nsi nit nsh nsf nss nrc jr (nI jd) mnumber mwhose msize misParted fnrc (hjr)) si_X12_366 [0, 1] [] sm_0_1 fm_0_1 nd_0_1 rfl rfl (by decide) rfl rfl rfl rfl rfl (Nat.le_of_ble_eq_true rfl) rm_39_1_2 ⟨Nat.le_of_ble_eq_true rfl, Nat.le_of_ble_eq_true rfl⟩ gX12_body_3.2.2.2.2.2.2.2.1 (Ktu2 fun jr16052 gtrc6053 => ?_)
  intro H locs hr6050 hP hD hS
  try dsimp only at hr6050
  refine Kpdr (ws := [(h0, oX12 nw nk mhasKept nt mtaped nr mrowMany mroundOf mroundFrom mouts nm mfromHour mtoHour ns mfrom mto msort misFault mdeep mcoded mlines nl nc nF np ntr nb mbestCost nso nsi nit nsh nsf nss nrc (nI jr16052) (nI jd) mnumber mwhose msize misParted), (nrc, iA G 30 gtrc6053)]) hP hD (fun hP hD => ?_)
  have w6054 := hr6050
  refine lv_aload_n hx hb gX12_body_3.2.2.2.2.2.2.2.2.1 rfl (lv_at0 hl) ?_
  refine lv_aload_n hx hb gX12_body_3.2.2.2.2.2.2.2.2.2 rfl (lv_at0 hl) ?_
  refine gf_X12_375 hC rfl hK hP 0 rfl rfl gX12_body_4.1 ?_
  refine lv_aload_n hx hb gX12_body_4.2.1 rfl (lv_at0 hl) ?_
  refine gf_X12_378 hC rfl hK hP 0 rfl rfl gX12_body_4.2.2.1 ?_
  refine lv_icmp_ne (tgt := 180) hx hb gX12_body_4.2.2.2.1 (by decide) (fun c_173_6055 => ?_) (fun c_173_6055 => ?_)
  · refine lv_iconst (v := 0) hx hb gX12_body_4.2.2.2.2.2.2.1 (by decide) ?_
    refine pf_X12_380 hC rfl hK hP hD hS 0 (ws' := [(h0, oX12 nw nk mhasKept nt mtaped nr mrowMany mroundOf mroundFrom mouts nm mfromHour mtoHour ns mfrom mto msort misFault mdeep mcoded mlines nl nc nF np ntr nb mbestCost nso nsi nit nsh nsf nss nrc (nI jr16052) (nI jd) mnumber mwhose msize 0), (nrc, iA G 30 gtrc6053)]) rfl (Nat.le_of_ble_eq_true rfl) rfl (by decide +kernel) (by decide +kernel) gX12_body_4.2.2.2.2.2.2.2.1 (fun H locs hP hD hS => ?_)
    refine lv_aload_n hx hb gX12_body_4.2.2.2.2.2.2.2.2.1 rfl (lv_at0 hl) ?_
    refine gf_X12_380 hC rfl hK hP 0 rfl rfl gX12_body_4.2.2.2.2.2.2.2.2.2 ?_
    refine lv_if_eq (tgt := 195) hx hb gX12_body_5.1 (by decide) (fun _ => ?_) (fun c9 => absurd (by decide) c9)
    refine lv_iload_n hx hb gX12_body_5.2.2.2.1 rfl (lv_at3 hl) ?_
    refine lv_aload_n hx hb gX12_body_5.2.2.2.2.1 rfl (lv_at0 hl) ?_
    refine gf_X12_375 hC rfl hK hP 0 rfl rfl gX12_body_5.2.2.2.2.2.1 ?_
    refine lv_aload_n hx hb gX12_body_5.2.2.2.2.2.2.1 rfl (lv_at0 hl) ?_
    refine gf_X12_378 hC rfl hK hP 0 rfl rfl gX12_body_5.2.2.2.2.2.2.2.1 ?_
    refine lv_isub hx hb gX12_body_5.2.2.2.2.2.2.2.2.1 ?_
    refine lv_idiv hx hb gX12_body_5.2.2.2.2.2.2.2.2.2 (nz_sub c_173_6055) ?_
    refine lv_topi (fun x6056 ex6056 => ?_)
    refine toQ hQ0 ?_
    exact RI (v := x6056) hC hP hD hS [0, 1] (jr16052, 0, gtrc6053) rfl rfl (by decide) (⟨trivial, by omega⟩) rfl gX12_body_6.1
  · refine lv_iconst (v := 1) hx hb gX12_body_4.2.2.2.2.1 (by decide) ?_
    refine lv_goto (tgt := 181) hx hb gX12_body_4.2.2.2.2.2.1 (by decide) ?_
    refine pf_X12_380 hC rfl hK hP hD hS 0 (ws' := [(h0, oX12 nw nk mhasKept nt mtaped nr mrowMany mroundOf mroundFrom mouts nm mfromHour mtoHour ns mfrom mto msort misFault mdeep mcoded mlines nl nc nF np ntr nb mbestCost nso nsi nit nsh nsf nss nrc (nI jr16052) (nI jd) mnumber mwhose msize 1), (nrc, iA G 30 gtrc6053)]) rfl (Nat.le_of_ble_eq_true rfl) rfl (by decide +kernel) (by decide +kernel) gX12_body_4.2.2.2.2.2.2.2.1 (fun H locs hP hD hS => ?_)
    refine lv_aload_n hx hb gX12_body_4.2.2.2.2.2.2.2.2.1 rfl (lv_at0 hl) ?_
    refine gf_X12_380 hC rfl hK hP 0 rfl rfl gX12_body_4.2.2.2.2.2.2.2.2.2 ?_
    refine lv_if_eq (tgt := 195) hx hb gX12_body_5.1 (by decide) (fun c9 => absurd c9 (by decide)) (fun _ => ?_)
    refine lv_iconst (v := 0) hx hb gX12_body_5.2.1 (by decide) ?_
    refine lv_goto (tgt := 206) hx hb gX12_body_5.2.2.1 (by decide) ?_
    refine toQ hQ0 ?_
    exact RI (v := 0) hC hP hD hS [0, 1] (jr16052, 1, gtrc6053) rfl rfl (by decide) (⟨trivial, by omega⟩) rfl gX12_body_6.1
def K_m_from03 (l : Launch) (G : GG) (h0 : Nat) (xx : Int32) (nw : Nat) (nk : Nat) (mhasKept : Int32) (nt : Nat) (mtaped : Int32) (nr : Nat) (mrowMany : Int32) (mroundOf : Int32) (mroundFrom : Int32) (mouts : Int32) (nm : Nat) (mfromHour : Int32) (mtoHour : Int32) (ns : Nat) (mfrom : Int32) (mto : Int32) (msort : Int32) (misFault : Int32) (mdeep : Int32) (mcoded : Int32) (mlines : Int32) (nl : Nat) (nc : Nat) (nF : Nat) (np : Nat) (ntr : Nat) (nb : Nat) (mbestCost : Int32) (nso : Nat) (nsi : Nat) (nit : Nat) (nsh : Nat) (nsf : Nat) (nss : Nat) (nrc : Nat) (jr : Nat) (jd : Nat) (mnumber : Int32) (mwhose : Int32) (msize : Int32) (misParted : Int32) (fnrc : Nat → Int32) : Prop := MI l G yX12_bodyFrom cX12_bodyFrom 5 (some .int) 40 0 0 [.ref h0, .int 0, .int 3, .int xx] [(h0, oX12 nw nk mhasKept nt mtaped nr mrowMany mroundOf mroundFrom mouts nm mfromHour mtoHour ns mfrom mto msort misFault mdeep mcoded mlines nl nc nF np ntr nb mbestCost nso nsi nit nsh nsf nss nrc (nI jr) (nI jd) mnumber mwhose msize misParted), (nrc, iA G 30 fnrc)] (fun (r : Int32) (u : Nat × Int32 × (Nat → Int32)) => (True) ∧ (u.1 ≤ 30)) (fun u : Nat × Int32 × (Nat → Int32) => [(h0, oX12 nw nk mhasKept nt mtaped nr mrowMany mroundOf mroundFrom mouts nm mfromHour mtoHour ns mfrom mto msort misFault mdeep mcoded mlines nl nc nF np ntr nb mbestCost nso nsi nit nsh nsf nss nrc (nI u.1) (nI jd) mnumber mwhose msize u.2.1), (nrc, iA G 30 u.2.2)])
set_option maxHeartbeats 4000000 in
set_option maxRecDepth 100000 in
theorem m_from03 (l : Launch) (G : GG) (h0 : Nat) (xx : Int32) (nw : Nat) (nk : Nat) (mhasKept : Int32) (nt : Nat) (mtaped : Int32) (nr : Nat) (mrowMany : Int32) (mroundOf : Int32) (mroundFrom : Int32) (mouts : Int32) (nm : Nat) (mfromHour : Int32) (mtoHour : Int32) (ns : Nat) (mfrom : Int32) (mto : Int32) (msort : Int32) (misFault : Int32) (mdeep : Int32) (mcoded : Int32) (mlines : Int32) (nl : Nat) (nc : Nat) (nF : Nat) (np : Nat) (ntr : Nat) (nb : Nat) (mbestCost : Int32) (nso : Nat) (nsi : Nat) (nit : Nat) (nsh : Nat) (nsf : Nat) (nss : Nat) (nrc : Nat) (jr : Nat) (jd : Nat) (mnumber : Int32) (mwhose : Int32) (msize : Int32) (misParted : Int32) (fnrc : Nat → Int32) (hjr : jr ≤ 30) (hjd : jd < 7) : K_m_from03 l G h0 xx nw nk mhasKept nt mtaped nr mrowMany mroundOf mroundFrom mouts nm mfromHour mtoHour ns mfrom mto msort misFault mdeep mcoded mlines nl nc nF np ntr nb mbestCost nso nsi nit nsh nsf nss nrc jr jd mnumber mwhose msize misParted fnrc := by
  refine MI.start (by decide +kernel) (Nat.le_of_ble_eq_true rfl) ?_
  intro p e s m below meth c A ls hC hK hP hD hS hA hl
  refine absQ (fun Q0 hQ0 => ?_)
  have hl : lv_has ls 5 [(0, .ref h0), (1, .int 0), (2, .int 3), (3, .int xx)] := hl
  refine Kan8 hC (fun hx hb hr hml hB hown hlocks hnm => ?_)
  refine lv_iload_n hx hb gX12_bodyFrom_0.1 rfl (lv_at1 hl) ?_
  refine lv_istore (lv' := [(4, .int 0), (0, .ref h0), (1, .int 0), (2, .int 3), (3, .int xx)]) hx hb gX12_bodyFrom_0.2.1 hl (by decide) rfl (fun ls hl => ?_)
  refine lv_iload hx hb gX12_bodyFrom_0.2.2.1 (lv_at0 hl) ?_
  refine lv_iload_n hx hb gX12_bodyFrom_0.2.2.2.1 rfl (lv_at3 hl) ?_
  refine pS hC hK hl (m_hasOwn03 l G) si_X12_360 rfl rfl (Nat.le_of_ble_eq_true rfl) rm_40_1_2 ⟨by first | exact Nat.le_of_ble_eq_true rfl | exact Nat.zero_le _, by first | exact Nat.le_of_ble_eq_true rfl | exact Nat.zero_le _⟩ gX12_bodyFrom_0.2.2.2.2.1 (Keqr ?_)
  refine lv_if_ne (tgt := 22) hx hb gX12_bodyFrom_0.2.2.2.2.2.1 (by decide) (fun _ => ?_) (fun c9 => absurd c9 (by decide))
  refine lv_aload_n hx hb gX12_bodyFrom_1.1 rfl (lv_at1 hl) ?_
  refine lv_iload hx hb gX12_bodyFrom_1.2.1 (lv_at0 hl) ?_
  refine lv_iload_n hx hb gX12_bodyFrom_1.2.2.1 rfl (lv_at3 hl) ?_
  refine lv_iload_n hx hb gX12_bodyFrom_1.2.2.2.1 rfl (lv_at4 hl) ?_
  refine iV (wr := []) hC hK hl hP hD hS hA (m_body03 l G h0 xx nw nk mhasKept nt mtaped nr mrowMany mroundOf mroundFrom mouts nm mfromHour mtoHour ns mfrom mto msort misFault mdeep mcoded mlines nl nc nF np ntr nb mbestCost nso nsi nit nsh nsf nss nrc jr jd mnumber mwhose msize misParted fnrc (hjr) (hjd)) si_X12_363 [0, 1] [] sm_0_1 fm_0_1 nd_0_1 rfl rfl (by decide) rfl rfl rfl rfl rfl (Nat.le_of_ble_eq_true rfl) rm_40_39_6 ⟨Nat.le_of_ble_eq_true rfl, Nat.le_of_ble_eq_true rfl⟩ gX12_bodyFrom_1.2.2.2.2.1 (fun r6059 => Ktu3 fun jr16061 ip16062 gtrc6063 => ?_)
  intro H locs hr6059 hP hD hS
  try dsimp only at hr6059
  refine Kpdr (ws := [(h0, oX12 nw nk mhasKept nt mtaped nr mrowMany mroundOf mroundFrom mouts nm mfromHour mtoHour ns mfrom mto msort misFault mdeep mcoded mlines nl nc nF np ntr nb mbestCost nso nsi nit nsh nsf nss nrc (nI jr16061) (nI jd) mnumber mwhose msize ip16062), (nrc, iA G 30 gtrc6063)]) hP hD (fun hP hD => ?_)
  obtain ⟨hr6059, w6064⟩ := hr6059
  refine toQ hQ0 ?_
  exact RI (v := r6059) hC hP hD hS [0, 1] (jr16061, ip16062, gtrc6063) rfl rfl (by decide) (⟨trivial, by omega⟩) rfl gX12_bodyFrom_1.2.2.2.2.2
def K_m_from13 (l : Launch) (G : GG) (h0 : Nat) (xx : Int32) (nw : Nat) (nk : Nat) (mhasKept : Int32) (nt : Nat) (mtaped : Int32) (nr : Nat) (mrowMany : Int32) (mroundOf : Int32) (mroundFrom : Int32) (mouts : Int32) (nm : Nat) (mfromHour : Int32) (mtoHour : Int32) (ns : Nat) (mfrom : Int32) (mto : Int32) (msort : Int32) (misFault : Int32) (mdeep : Int32) (mcoded : Int32) (mlines : Int32) (nl : Nat) (nc : Nat) (nF : Nat) (np : Nat) (ntr : Nat) (nb : Nat) (mbestCost : Int32) (nso : Nat) (nsi : Nat) (nit : Nat) (nsh : Nat) (nsf : Nat) (nss : Nat) (nrc : Nat) (jr : Nat) (jd : Nat) (mnumber : Int32) (mwhose : Int32) (msize : Int32) (misParted : Int32) (fnrc : Nat → Int32) : Prop := MI l G yX12_bodyFrom cX12_bodyFrom 5 (some .int) 42 0 0 [.ref h0, .int 1, .int 3, .int xx] [(h0, oX12 nw nk mhasKept nt mtaped nr mrowMany mroundOf mroundFrom mouts nm mfromHour mtoHour ns mfrom mto msort misFault mdeep mcoded mlines nl nc nF np ntr nb mbestCost nso nsi nit nsh nsf nss nrc (nI jr) (nI jd) mnumber mwhose msize misParted), (nrc, iA G 30 fnrc)] (fun (r : Int32) (u : Nat × Int32 × (Nat → Int32)) => (True) ∧ (u.1 ≤ 30)) (fun u : Nat × Int32 × (Nat → Int32) => [(h0, oX12 nw nk mhasKept nt mtaped nr mrowMany mroundOf mroundFrom mouts nm mfromHour mtoHour ns mfrom mto msort misFault mdeep mcoded mlines nl nc nF np ntr nb mbestCost nso nsi nit nsh nsf nss nrc (nI u.1) (nI jd) mnumber mwhose msize u.2.1), (nrc, iA G 30 u.2.2)])
set_option maxHeartbeats 4000000 in
set_option maxRecDepth 100000 in
theorem m_from13 (l : Launch) (G : GG) (h0 : Nat) (xx : Int32) (nw : Nat) (nk : Nat) (mhasKept : Int32) (nt : Nat) (mtaped : Int32) (nr : Nat) (mrowMany : Int32) (mroundOf : Int32) (mroundFrom : Int32) (mouts : Int32) (nm : Nat) (mfromHour : Int32) (mtoHour : Int32) (ns : Nat) (mfrom : Int32) (mto : Int32) (msort : Int32) (misFault : Int32) (mdeep : Int32) (mcoded : Int32) (mlines : Int32) (nl : Nat) (nc : Nat) (nF : Nat) (np : Nat) (ntr : Nat) (nb : Nat) (mbestCost : Int32) (nso : Nat) (nsi : Nat) (nit : Nat) (nsh : Nat) (nsf : Nat) (nss : Nat) (nrc : Nat) (jr : Nat) (jd : Nat) (mnumber : Int32) (mwhose : Int32) (msize : Int32) (misParted : Int32) (fnrc : Nat → Int32) (hjr : jr ≤ 30) (hjd : jd < 7) : K_m_from13 l G h0 xx nw nk mhasKept nt mtaped nr mrowMany mroundOf mroundFrom mouts nm mfromHour mtoHour ns mfrom mto msort misFault mdeep mcoded mlines nl nc nF np ntr nb mbestCost nso nsi nit nsh nsf nss nrc jr jd mnumber mwhose msize misParted fnrc := by
  refine MI.start (by decide +kernel) (Nat.le_of_ble_eq_true rfl) ?_
  intro p e s m below meth c A ls hC hK hP hD hS hA hl
  refine absQ (fun Q0 hQ0 => ?_)
  have hl : lv_has ls 5 [(0, .ref h0), (1, .int 1), (2, .int 3), (3, .int xx)] := hl
  refine Kan8 hC (fun hx hb hr hml hB hown hlocks hnm => ?_)
  refine lv_iload_n hx hb gX12_bodyFrom_0.1 rfl (lv_at1 hl) ?_
  refine lv_istore (lv' := [(4, .int 1), (0, .ref h0), (1, .int 1), (2, .int 3), (3, .int xx)]) hx hb gX12_bodyFrom_0.2.1 hl (by decide) rfl (fun ls hl => ?_)
  refine lv_iload hx hb gX12_bodyFrom_0.2.2.1 (lv_at0 hl) ?_
  refine lv_iload_n hx hb gX12_bodyFrom_0.2.2.2.1 rfl (lv_at3 hl) ?_
  refine pS hC hK hl (m_hasOwn13 l G) si_X12_360 rfl rfl (Nat.le_of_ble_eq_true rfl) rm_42_1_2 ⟨by first | exact Nat.le_of_ble_eq_true rfl | exact Nat.zero_le _, by first | exact Nat.le_of_ble_eq_true rfl | exact Nat.zero_le _⟩ gX12_bodyFrom_0.2.2.2.2.1 (Keqr ?_)
  refine lv_if_ne (tgt := 22) hx hb gX12_bodyFrom_0.2.2.2.2.2.1 (by decide) (fun c9 => absurd (by decide) c9) (fun _ => ?_)
  refine lv_iload hx hb gX12_bodyFrom_0.2.2.2.2.2.2.1 (lv_at0 hl) ?_
  refine pS hC hK hl (m_above1 l G) si_X12_348 rfl rfl (Nat.le_of_ble_eq_true rfl) rm_42_1_1 ⟨by first | exact Nat.le_of_ble_eq_true rfl | exact Nat.zero_le _, by first | exact Nat.le_of_ble_eq_true rfl | exact Nat.zero_le _⟩ gX12_bodyFrom_0.2.2.2.2.2.2.2.1 (Keqr ?_)
  refine lv_istore (lv' := [(4, .int 0), (0, .ref h0), (1, .int 1), (2, .int 3), (3, .int xx)]) hx hb gX12_bodyFrom_0.2.2.2.2.2.2.2.2.1 hl (by decide) rfl (fun ls hl => ?_)
  refine lv_goto (tgt := 3) hx hb gX12_bodyFrom_0.2.2.2.2.2.2.2.2.2 (by decide) ?_
  refine lv_iload hx hb gX12_bodyFrom_0.2.2.1 (lv_at0 hl) ?_
  refine lv_iload_n hx hb gX12_bodyFrom_0.2.2.2.1 rfl (lv_at3 hl) ?_
  refine pS hC hK hl (m_hasOwn03 l G) si_X12_360 rfl rfl (Nat.le_of_ble_eq_true rfl) rm_42_1_2 ⟨by first | exact Nat.le_of_ble_eq_true rfl | exact Nat.zero_le _, by first | exact Nat.le_of_ble_eq_true rfl | exact Nat.zero_le _⟩ gX12_bodyFrom_0.2.2.2.2.1 (Keqr ?_)
  refine lv_if_ne (tgt := 22) hx hb gX12_bodyFrom_0.2.2.2.2.2.1 (by decide) (fun _ => ?_) (fun c9 => absurd c9 (by decide))
  refine lv_aload_n hx hb gX12_bodyFrom_1.1 rfl (lv_at1 hl) ?_
  refine lv_iload hx hb gX12_bodyFrom_1.2.1 (lv_at0 hl) ?_
  refine lv_iload_n hx hb gX12_bodyFrom_1.2.2.1 rfl (lv_at3 hl) ?_
  refine lv_iload_n hx hb gX12_bodyFrom_1.2.2.2.1 rfl (lv_at4 hl) ?_
  refine iV (wr := []) hC hK hl hP hD hS hA (m_body03 l G h0 xx nw nk mhasKept nt mtaped nr mrowMany mroundOf mroundFrom mouts nm mfromHour mtoHour ns mfrom mto msort misFault mdeep mcoded mlines nl nc nF np ntr nb mbestCost nso nsi nit nsh nsf nss nrc jr jd mnumber mwhose msize misParted fnrc (hjr) (hjd)) si_X12_363 [0, 1] [] sm_0_1 fm_0_1 nd_0_1 rfl rfl (by decide) rfl rfl rfl rfl rfl (Nat.le_of_ble_eq_true rfl) rm_42_39_6 ⟨Nat.le_of_ble_eq_true rfl, Nat.le_of_ble_eq_true rfl⟩ gX12_bodyFrom_1.2.2.2.2.1 (fun r6071 => Ktu3 fun jr16073 ip16074 gtrc6075 => ?_)
  intro H locs hr6071 hP hD hS
  try dsimp only at hr6071
  refine Kpdr (ws := [(h0, oX12 nw nk mhasKept nt mtaped nr mrowMany mroundOf mroundFrom mouts nm mfromHour mtoHour ns mfrom mto msort misFault mdeep mcoded mlines nl nc nF np ntr nb mbestCost nso nsi nit nsh nsf nss nrc (nI jr16073) (nI jd) mnumber mwhose msize ip16074), (nrc, iA G 30 gtrc6075)]) hP hD (fun hP hD => ?_)
  obtain ⟨hr6071, w6076⟩ := hr6071
  refine toQ hQ0 ?_
  exact RI (v := r6071) hC hP hD hS [0, 1] (jr16073, ip16074, gtrc6075) rfl rfl (by decide) (⟨trivial, by omega⟩) rfl gX12_bodyFrom_1.2.2.2.2.2
def K_m_body33 (l : Launch) (G : GG) (h0 : Nat) (xx : Int32) (nw : Nat) (nk : Nat) (mhasKept : Int32) (nt : Nat) (mtaped : Int32) (nr : Nat) (mrowMany : Int32) (mroundOf : Int32) (mroundFrom : Int32) (mouts : Int32) (nm : Nat) (mfromHour : Int32) (mtoHour : Int32) (ns : Nat) (mfrom : Int32) (mto : Int32) (msort : Int32) (misFault : Int32) (mdeep : Int32) (mcoded : Int32) (mlines : Int32) (nl : Nat) (nc : Nat) (nF : Nat) (np : Nat) (ntr : Nat) (nb : Nat) (mbestCost : Int32) (nso : Nat) (nsi : Nat) (nit : Nat) (nsh : Nat) (nsf : Nat) (nss : Nat) (nrc : Nat) (jr : Nat) (jd : Nat) (mnumber : Int32) (mwhose : Int32) (msize : Int32) (misParted : Int32) (fnrc : Nat → Int32) : Prop := MI l G yX12_body cX12_body 6 (some .int) 43 0 0 [.ref h0, .int 3, .int 3, .int xx] [(h0, oX12 nw nk mhasKept nt mtaped nr mrowMany mroundOf mroundFrom mouts nm mfromHour mtoHour ns mfrom mto msort misFault mdeep mcoded mlines nl nc nF np ntr nb mbestCost nso nsi nit nsh nsf nss nrc (nI jr) (nI jd) mnumber mwhose msize misParted), (nrc, iA G 30 fnrc)] (fun (r : Int32) (u : Nat × Int32 × (Nat → Int32)) => (True) ∧ (u.1 ≤ 30)) (fun u : Nat × Int32 × (Nat → Int32) => [(h0, oX12 nw nk mhasKept nt mtaped nr mrowMany mroundOf mroundFrom mouts nm mfromHour mtoHour ns mfrom mto msort misFault mdeep mcoded mlines nl nc nF np ntr nb mbestCost nso nsi nit nsh nsf nss nrc (nI u.1) (nI jd) mnumber mwhose msize u.2.1), (nrc, iA G 30 u.2.2)])
set_option maxHeartbeats 4000000 in
set_option maxRecDepth 100000 in
theorem m_body33 (l : Launch) (G : GG) (h0 : Nat) (xx : Int32) (nw : Nat) (nk : Nat) (mhasKept : Int32) (nt : Nat) (mtaped : Int32) (nr : Nat) (mrowMany : Int32) (mroundOf : Int32) (mroundFrom : Int32) (mouts : Int32) (nm : Nat) (mfromHour : Int32) (mtoHour : Int32) (ns : Nat) (mfrom : Int32) (mto : Int32) (msort : Int32) (misFault : Int32) (mdeep : Int32) (mcoded : Int32) (mlines : Int32) (nl : Nat) (nc : Nat) (nF : Nat) (np : Nat) (ntr : Nat) (nb : Nat) (mbestCost : Int32) (nso : Nat) (nsi : Nat) (nit : Nat) (nsh : Nat) (nsf : Nat) (nss : Nat) (nrc : Nat) (jr : Nat) (jd : Nat) (mnumber : Int32) (mwhose : Int32) (msize : Int32) (misParted : Int32) (fnrc : Nat → Int32) (hjr : jr ≤ 30) (hjd : jd < 7) : K_m_body33 l G h0 xx nw nk mhasKept nt mtaped nr mrowMany mroundOf mroundFrom mouts nm mfromHour mtoHour ns mfrom mto msort misFault mdeep mcoded mlines nl nc nF np ntr nb mbestCost nso nsi nit nsh nsf nss nrc jr jd mnumber mwhose msize misParted fnrc := by
  refine MI.start (by decide +kernel) (Nat.le_of_ble_eq_true rfl) ?_
  intro p e s m below meth c A ls hC hK hP hD hS hA hl
  refine absQ (fun Q0 hQ0 => ?_)
  have hl : lv_has ls 6 [(0, .ref h0), (1, .int 3), (2, .int 3), (3, .int xx)] := hl
  refine Kan8 hC (fun hx hb hr hml hB hown hlocks hnm => ?_)
  refine lv_iconst (v := 4) hx hb gX12_body_0.1 (by decide) ?_
  refine lv_iload_n hx hb gX12_body_0.2.1 rfl (lv_at1 hl) ?_
  refine lv_imul hx hb gX12_body_0.2.2.1 ?_
  refine eqi (x1 := 12) (by decide) ?_
  refine lv_iload_n hx hb gX12_body_0.2.2.2.1 rfl (lv_at2 hl) ?_
  refine lv_iadd hx hb gX12_body_0.2.2.2.2.1 ?_
  refine eqi (x1 := 15) (by decide) ?_
  refine lv_tableIn (tgt := 258) hx hb gX12_body_0.2.2.2.2.2.1 (by decide) (by decide) rfl (by decide) ?_
  refine lv_aload_n hx hb gX12_body_9.2.2.2.2.2.1 rfl (lv_at0 hl) ?_
  refine lv_bipush (v := 41) hx hb gX12_body_9.2.2.2.2.2.2.1 (by decide) ?_
  refine vV (wr := []) hC hK hl hP hD hS hA (m_began l G h0 41 nw nk mhasKept nt mtaped nr mrowMany mroundOf mroundFrom mouts nm mfromHour mtoHour ns mfrom mto msort misFault mdeep mcoded mlines nl nc nF np ntr nb mbestCost nso nsi nit nsh nsf nss nrc jr (nI jd) mnumber mwhose msize misParted fnrc (hjr)) si_X12_366 [0, 1] [] sm_0_1 fm_0_1 nd_0_1 rfl rfl (by decide) rfl rfl rfl rfl rfl (Nat.le_of_ble_eq_true rfl) rm_43_1_2 ⟨Nat.le_of_ble_eq_true rfl, Nat.le_of_ble_eq_true rfl⟩ gX12_body_9.2.2.2.2.2.2.2.1 (Ktu2 fun jr16079 gtrc6080 => ?_)
  intro H locs hr6077 hP hD hS
  try dsimp only at hr6077
  refine Kpdr (ws := [(h0, oX12 nw nk mhasKept nt mtaped nr mrowMany mroundOf mroundFrom mouts nm mfromHour mtoHour ns mfrom mto msort misFault mdeep mcoded mlines nl nc nF np ntr nb mbestCost nso nsi nit nsh nsf nss nrc (nI jr16079) (nI jd) mnumber mwhose msize misParted), (nrc, iA G 30 gtrc6080)]) hP hD (fun hP hD => ?_)
  have w6081 := hr6077
  refine lv_aload_n hx hb gX12_body_9.2.2.2.2.2.2.2.2.1 rfl (lv_at0 hl) ?_
  refine lv_iconst (v := 1) hx hb gX12_body_9.2.2.2.2.2.2.2.2.2 (by decide) ?_
  refine lv_iconst (v := 3) hx hb gX12_body_10.1 (by decide) ?_
  refine lv_iload_n hx hb gX12_body_10.2.1 rfl (lv_at3 hl) ?_
  refine lv_iconst (v := 2) hx hb gX12_body_10.2.2.1 (by decide) ?_
  refine lv_iadd hx hb gX12_body_10.2.2.2.1 ?_
  refine iV (wr := []) hC hK hl hP hD hS hA (m_from13 l G h0 (xx + 2) nw nk mhasKept nt mtaped nr mrowMany mroundOf mroundFrom mouts nm mfromHour mtoHour ns mfrom mto msort misFault mdeep mcoded mlines nl nc nF np ntr nb mbestCost nso nsi nit nsh nsf nss nrc jr16079 jd mnumber mwhose msize misParted gtrc6080 (w6081) (hjd)) si_X12_357 [0, 1] [] sm_0_1 fm_0_1 nd_0_1 rfl rfl (by decide) rfl rfl rfl rfl rfl (Nat.le_of_ble_eq_true rfl) rm_43_42_5 ⟨Nat.le_of_ble_eq_true rfl, Nat.le_of_ble_eq_true rfl⟩ gX12_body_10.2.2.2.2.1 (fun r6082 => Ktu3 fun jr16084 ip16085 gtrc6086 => ?_)
  intro H locs hr6082 hP hD hS
  try dsimp only at hr6082
  refine Kpdr (ws := [(h0, oX12 nw nk mhasKept nt mtaped nr mrowMany mroundOf mroundFrom mouts nm mfromHour mtoHour ns mfrom mto msort misFault mdeep mcoded mlines nl nc nF np ntr nb mbestCost nso nsi nit nsh nsf nss nrc (nI jr16084) (nI jd) mnumber mwhose msize ip16085), (nrc, iA G 30 gtrc6086)]) hP hD (fun hP hD => ?_)
  obtain ⟨hr6082, w6087⟩ := hr6082
  refine toQ hQ0 ?_
  exact RI (v := r6082) hC hP hD hS [0, 1] (jr16084, ip16085, gtrc6086) rfl rfl (by decide) (⟨trivial, by omega⟩) rfl gX12_body_10.2.2.2.2.2.1
def K_m_from33 (l : Launch) (G : GG) (h0 : Nat) (xx : Int32) (nw : Nat) (nk : Nat) (mhasKept : Int32) (nt : Nat) (mtaped : Int32) (nr : Nat) (mrowMany : Int32) (mroundOf : Int32) (mroundFrom : Int32) (mouts : Int32) (nm : Nat) (mfromHour : Int32) (mtoHour : Int32) (ns : Nat) (mfrom : Int32) (mto : Int32) (msort : Int32) (misFault : Int32) (mdeep : Int32) (mcoded : Int32) (mlines : Int32) (nl : Nat) (nc : Nat) (nF : Nat) (np : Nat) (ntr : Nat) (nb : Nat) (mbestCost : Int32) (nso : Nat) (nsi : Nat) (nit : Nat) (nsh : Nat) (nsf : Nat) (nss : Nat) (nrc : Nat) (jr : Nat) (jd : Nat) (mnumber : Int32) (mwhose : Int32) (msize : Int32) (misParted : Int32) (fnrc : Nat → Int32) : Prop := MI l G yX12_bodyFrom cX12_bodyFrom 5 (some .int) 44 0 0 [.ref h0, .int 3, .int 3, .int xx] [(h0, oX12 nw nk mhasKept nt mtaped nr mrowMany mroundOf mroundFrom mouts nm mfromHour mtoHour ns mfrom mto msort misFault mdeep mcoded mlines nl nc nF np ntr nb mbestCost nso nsi nit nsh nsf nss nrc (nI jr) (nI jd) mnumber mwhose msize misParted), (nrc, iA G 30 fnrc)] (fun (r : Int32) (u : Nat × Int32 × (Nat → Int32)) => (True) ∧ (u.1 ≤ 30)) (fun u : Nat × Int32 × (Nat → Int32) => [(h0, oX12 nw nk mhasKept nt mtaped nr mrowMany mroundOf mroundFrom mouts nm mfromHour mtoHour ns mfrom mto msort misFault mdeep mcoded mlines nl nc nF np ntr nb mbestCost nso nsi nit nsh nsf nss nrc (nI u.1) (nI jd) mnumber mwhose msize u.2.1), (nrc, iA G 30 u.2.2)])
set_option maxHeartbeats 4000000 in
set_option maxRecDepth 100000 in
theorem m_from33 (l : Launch) (G : GG) (h0 : Nat) (xx : Int32) (nw : Nat) (nk : Nat) (mhasKept : Int32) (nt : Nat) (mtaped : Int32) (nr : Nat) (mrowMany : Int32) (mroundOf : Int32) (mroundFrom : Int32) (mouts : Int32) (nm : Nat) (mfromHour : Int32) (mtoHour : Int32) (ns : Nat) (mfrom : Int32) (mto : Int32) (msort : Int32) (misFault : Int32) (mdeep : Int32) (mcoded : Int32) (mlines : Int32) (nl : Nat) (nc : Nat) (nF : Nat) (np : Nat) (ntr : Nat) (nb : Nat) (mbestCost : Int32) (nso : Nat) (nsi : Nat) (nit : Nat) (nsh : Nat) (nsf : Nat) (nss : Nat) (nrc : Nat) (jr : Nat) (jd : Nat) (mnumber : Int32) (mwhose : Int32) (msize : Int32) (misParted : Int32) (fnrc : Nat → Int32) (hjr : jr ≤ 30) (hjd : jd < 7) : K_m_from33 l G h0 xx nw nk mhasKept nt mtaped nr mrowMany mroundOf mroundFrom mouts nm mfromHour mtoHour ns mfrom mto msort misFault mdeep mcoded mlines nl nc nF np ntr nb mbestCost nso nsi nit nsh nsf nss nrc jr jd mnumber mwhose msize misParted fnrc := by
  refine MI.start (by decide +kernel) (Nat.le_of_ble_eq_true rfl) ?_
  intro p e s m below meth c A ls hC hK hP hD hS hA hl
  refine absQ (fun Q0 hQ0 => ?_)
  have hl : lv_has ls 5 [(0, .ref h0), (1, .int 3), (2, .int 3), (3, .int xx)] := hl
  refine Kan8 hC (fun hx hb hr hml hB hown hlocks hnm => ?_)
  refine lv_iload_n hx hb gX12_bodyFrom_0.1 rfl (lv_at1 hl) ?_
  refine lv_istore (lv' := [(4, .int 3), (0, .ref h0), (1, .int 3), (2, .int 3), (3, .int xx)]) hx hb gX12_bodyFrom_0.2.1 hl (by decide) rfl (fun ls hl => ?_)
  refine lv_iload hx hb gX12_bodyFrom_0.2.2.1 (lv_at0 hl) ?_
  refine lv_iload_n hx hb gX12_bodyFrom_0.2.2.2.1 rfl (lv_at3 hl) ?_
  refine pS hC hK hl (m_hasOwn33 l G) si_X12_360 rfl rfl (Nat.le_of_ble_eq_true rfl) rm_44_1_2 ⟨by first | exact Nat.le_of_ble_eq_true rfl | exact Nat.zero_le _, by first | exact Nat.le_of_ble_eq_true rfl | exact Nat.zero_le _⟩ gX12_bodyFrom_0.2.2.2.2.1 (Keqr ?_)
  refine lv_if_ne (tgt := 22) hx hb gX12_bodyFrom_0.2.2.2.2.2.1 (by decide) (fun _ => ?_) (fun c9 => absurd c9 (by decide))
  refine lv_aload_n hx hb gX12_bodyFrom_1.1 rfl (lv_at1 hl) ?_
  refine lv_iload hx hb gX12_bodyFrom_1.2.1 (lv_at0 hl) ?_
  refine lv_iload_n hx hb gX12_bodyFrom_1.2.2.1 rfl (lv_at3 hl) ?_
  refine lv_iload_n hx hb gX12_bodyFrom_1.2.2.2.1 rfl (lv_at4 hl) ?_
  refine iV (wr := []) hC hK hl hP hD hS hA (m_body33 l G h0 xx nw nk mhasKept nt mtaped nr mrowMany mroundOf mroundFrom mouts nm mfromHour mtoHour ns mfrom mto msort misFault mdeep mcoded mlines nl nc nF np ntr nb mbestCost nso nsi nit nsh nsf nss nrc jr jd mnumber mwhose msize misParted fnrc (hjr) (hjd)) si_X12_363 [0, 1] [] sm_0_1 fm_0_1 nd_0_1 rfl rfl (by decide) rfl rfl rfl rfl rfl (Nat.le_of_ble_eq_true rfl) rm_44_43_6 ⟨Nat.le_of_ble_eq_true rfl, Nat.le_of_ble_eq_true rfl⟩ gX12_bodyFrom_1.2.2.2.2.1 (fun r6090 => Ktu3 fun jr16092 ip16093 gtrc6094 => ?_)
  intro H locs hr6090 hP hD hS
  try dsimp only at hr6090
  refine Kpdr (ws := [(h0, oX12 nw nk mhasKept nt mtaped nr mrowMany mroundOf mroundFrom mouts nm mfromHour mtoHour ns mfrom mto msort misFault mdeep mcoded mlines nl nc nF np ntr nb mbestCost nso nsi nit nsh nsf nss nrc (nI jr16092) (nI jd) mnumber mwhose msize ip16093), (nrc, iA G 30 gtrc6094)]) hP hD (fun hP hD => ?_)
  obtain ⟨hr6090, w6095⟩ := hr6090
  refine toQ hQ0 ?_
  exact RI (v := r6090) hC hP hD hS [0, 1] (jr16092, ip16093, gtrc6094) rfl rfl (by decide) (⟨trivial, by omega⟩) rfl gX12_bodyFrom_1.2.2.2.2.2
def K_m_body63 (l : Launch) (G : GG) (h0 : Nat) (xx : Int32) (nw : Nat) (nk : Nat) (mhasKept : Int32) (nt : Nat) (mtaped : Int32) (nr : Nat) (mrowMany : Int32) (mroundOf : Int32) (mroundFrom : Int32) (mouts : Int32) (nm : Nat) (mfromHour : Int32) (mtoHour : Int32) (ns : Nat) (mfrom : Int32) (mto : Int32) (msort : Int32) (misFault : Int32) (mdeep : Int32) (mcoded : Int32) (mlines : Int32) (nl : Nat) (nc : Nat) (nF : Nat) (np : Nat) (ntr : Nat) (nb : Nat) (mbestCost : Int32) (nso : Nat) (nsi : Nat) (nit : Nat) (nsh : Nat) (nsf : Nat) (nss : Nat) (nrc : Nat) (jr : Nat) (jd : Nat) (mnumber : Int32) (mwhose : Int32) (msize : Int32) (misParted : Int32) (fnrc : Nat → Int32) : Prop := MI l G yX12_body cX12_body 6 (some .int) 45 0 0 [.ref h0, .int 6, .int 3, .int xx] [(h0, oX12 nw nk mhasKept nt mtaped nr mrowMany mroundOf mroundFrom mouts nm mfromHour mtoHour ns mfrom mto msort misFault mdeep mcoded mlines nl nc nF np ntr nb mbestCost nso nsi nit nsh nsf nss nrc (nI jr) (nI jd) mnumber mwhose msize misParted), (nrc, iA G 30 fnrc)] (fun (r : Int32) (u : Nat × Int32 × (Nat → Int32)) => (True) ∧ (u.1 ≤ 30)) (fun u : Nat × Int32 × (Nat → Int32) => [(h0, oX12 nw nk mhasKept nt mtaped nr mrowMany mroundOf mroundFrom mouts nm mfromHour mtoHour ns mfrom mto msort misFault mdeep mcoded mlines nl nc nF np ntr nb mbestCost nso nsi nit nsh nsf nss nrc (nI u.1) (nI jd) mnumber mwhose msize u.2.1), (nrc, iA G 30 u.2.2)])
set_option maxHeartbeats 4000000 in
set_option maxRecDepth 100000 in
theorem m_body63 (l : Launch) (G : GG) (h0 : Nat) (xx : Int32) (nw : Nat) (nk : Nat) (mhasKept : Int32) (nt : Nat) (mtaped : Int32) (nr : Nat) (mrowMany : Int32) (mroundOf : Int32) (mroundFrom : Int32) (mouts : Int32) (nm : Nat) (mfromHour : Int32) (mtoHour : Int32) (ns : Nat) (mfrom : Int32) (mto : Int32) (msort : Int32) (misFault : Int32) (mdeep : Int32) (mcoded : Int32) (mlines : Int32) (nl : Nat) (nc : Nat) (nF : Nat) (np : Nat) (ntr : Nat) (nb : Nat) (mbestCost : Int32) (nso : Nat) (nsi : Nat) (nit : Nat) (nsh : Nat) (nsf : Nat) (nss : Nat) (nrc : Nat) (jr : Nat) (jd : Nat) (mnumber : Int32) (mwhose : Int32) (msize : Int32) (misParted : Int32) (fnrc : Nat → Int32) (hjr : jr ≤ 30) (hjd : jd < 7) : K_m_body63 l G h0 xx nw nk mhasKept nt mtaped nr mrowMany mroundOf mroundFrom mouts nm mfromHour mtoHour ns mfrom mto msort misFault mdeep mcoded mlines nl nc nF np ntr nb mbestCost nso nsi nit nsh nsf nss nrc jr jd mnumber mwhose msize misParted fnrc := by
  refine MI.start (by decide +kernel) (Nat.le_of_ble_eq_true rfl) ?_
  intro p e s m below meth c A ls hC hK hP hD hS hA hl
  refine absQ (fun Q0 hQ0 => ?_)
  have hl : lv_has ls 6 [(0, .ref h0), (1, .int 6), (2, .int 3), (3, .int xx)] := hl
  refine Kan8 hC (fun hx hb hr hml hB hown hlocks hnm => ?_)
  refine lv_iconst (v := 4) hx hb gX12_body_0.1 (by decide) ?_
  refine lv_iload_n hx hb gX12_body_0.2.1 rfl (lv_at1 hl) ?_
  refine lv_imul hx hb gX12_body_0.2.2.1 ?_
  refine eqi (x1 := 24) (by decide) ?_
  refine lv_iload_n hx hb gX12_body_0.2.2.2.1 rfl (lv_at2 hl) ?_
  refine lv_iadd hx hb gX12_body_0.2.2.2.2.1 ?_
  refine eqi (x1 := 27) (by decide) ?_
  refine lv_tableOut (tgt := 353) hx hb gX12_body_0.2.2.2.2.2.1 (by decide) (by decide) ?_
  refine lv_aload_n hx hb gX12_body_15.2.2.2.2.2.2.2.1 rfl (lv_at0 hl) ?_
  refine lv_bipush (v := 70) hx hb gX12_body_15.2.2.2.2.2.2.2.2.1 (by decide) ?_
  refine vV (wr := []) hC hK hl hP hD hS hA (m_began l G h0 70 nw nk mhasKept nt mtaped nr mrowMany mroundOf mroundFrom mouts nm mfromHour mtoHour ns mfrom mto msort misFault mdeep mcoded mlines nl nc nF np ntr nb mbestCost nso nsi nit nsh nsf nss nrc jr (nI jd) mnumber mwhose msize misParted fnrc (hjr)) si_X12_366 [0, 1] [] sm_0_1 fm_0_1 nd_0_1 rfl rfl (by decide) rfl rfl rfl rfl rfl (Nat.le_of_ble_eq_true rfl) rm_45_1_2 ⟨Nat.le_of_ble_eq_true rfl, Nat.le_of_ble_eq_true rfl⟩ gX12_body_15.2.2.2.2.2.2.2.2.2 (Ktu2 fun jr16098 gtrc6099 => ?_)
  intro H locs hr6096 hP hD hS
  try dsimp only at hr6096
  refine Kpdr (ws := [(h0, oX12 nw nk mhasKept nt mtaped nr mrowMany mroundOf mroundFrom mouts nm mfromHour mtoHour ns mfrom mto msort misFault mdeep mcoded mlines nl nc nF np ntr nb mbestCost nso nsi nit nsh nsf nss nrc (nI jr16098) (nI jd) mnumber mwhose msize misParted), (nrc, iA G 30 gtrc6099)]) hP hD (fun hP hD => ?_)
  have w6100 := hr6096
  refine lv_aload_n hx hb gX12_body_16.1 rfl (lv_at0 hl) ?_
  refine lv_iconst (v := 0) hx hb gX12_body_16.2.1 (by decide) ?_
  refine lv_iconst (v := 3) hx hb gX12_body_16.2.2.1 (by decide) ?_
  refine lv_iload_n hx hb gX12_body_16.2.2.2.1 rfl (lv_at3 hl) ?_
  refine iV (wr := []) hC hK hl hP hD hS hA (m_from03 l G h0 xx nw nk mhasKept nt mtaped nr mrowMany mroundOf mroundFrom mouts nm mfromHour mtoHour ns mfrom mto msort misFault mdeep mcoded mlines nl nc nF np ntr nb mbestCost nso nsi nit nsh nsf nss nrc jr16098 jd mnumber mwhose msize misParted gtrc6099 (w6100) (hjd)) si_X12_357 [0, 1] [] sm_0_1 fm_0_1 nd_0_1 rfl rfl (by decide) rfl rfl rfl rfl rfl (Nat.le_of_ble_eq_true rfl) rm_45_40_5 ⟨Nat.le_of_ble_eq_true rfl, Nat.le_of_ble_eq_true rfl⟩ gX12_body_16.2.2.2.2.1 (fun r6101 => Ktu3 fun jr16103 ip16104 gtrc6105 => ?_)
  intro H locs hr6101 hP hD hS
  try dsimp only at hr6101
  refine Kpdr (ws := [(h0, oX12 nw nk mhasKept nt mtaped nr mrowMany mroundOf mroundFrom mouts nm mfromHour mtoHour ns mfrom mto msort misFault mdeep mcoded mlines nl nc nF np ntr nb mbestCost nso nsi nit nsh nsf nss nrc (nI jr16103) (nI jd) mnumber mwhose msize ip16104), (nrc, iA G 30 gtrc6105)]) hP hD (fun hP hD => ?_)
  obtain ⟨hr6101, w6106⟩ := hr6101
  refine lv_istore (lv' := [(5, .int r6101), (0, .ref h0), (1, .int 6), (2, .int 3), (3, .int xx)]) hx hb gX12_body_16.2.2.2.2.2.1 hl (by decide) rfl (fun ls hl => ?_)
  refine lv_aload_n hx hb gX12_body_16.2.2.2.2.2.2.1 rfl (lv_at1 hl) ?_
  refine gf_X12_380 hC rfl hK hP 0 rfl rfl gX12_body_16.2.2.2.2.2.2.2.1 ?_
  refine lv_if_eq (tgt := 379) hx hb gX12_body_16.2.2.2.2.2.2.2.2.1 (by decide) (fun c_372_6107 => ?_) (fun c_372_6107 => ?_)
  · refine lv_iload hx hb gX12_body_17.2.1 (lv_at0 hl) ?_
    refine lv_aload_n hx hb gX12_body_17.2.2.1 rfl (lv_at1 hl) ?_
    refine lv_iconst (v := 0) hx hb gX12_body_17.2.2.2.1 (by decide) ?_
    refine lv_aload_n hx hb gX12_body_17.2.2.2.2.1 rfl (lv_at1 hl) ?_
    refine gf_X12_378 hC rfl hK hP 0 rfl rfl gX12_body_17.2.2.2.2.2.1 ?_
    refine iV (wr := []) hC hK hl hP hD hS hA (m_dealt0 l G h0 mnumber nw nk mhasKept nt mtaped nr mrowMany mroundOf mroundFrom mouts nm mfromHour mtoHour ns mfrom mto msort misFault mdeep mcoded mlines nl nc nF np ntr nb mbestCost nso nsi nit nsh nsf nss nrc jr16103 jd mnumber mwhose msize ip16104 gtrc6105 (w6106) (hjd)) si_X12_372 [0, 1] [] sm_0_1 fm_0_1 nd_0_1 rfl rfl (by decide) rfl rfl rfl rfl rfl (Nat.le_of_ble_eq_true rfl) rm_45_14_3 ⟨Nat.le_of_ble_eq_true rfl, Nat.le_of_ble_eq_true rfl⟩ gX12_body_17.2.2.2.2.2.2.1 (fun r6108 => Ktu3 fun jr16110 ip16111 gtrc6112 => ?_)
    intro H locs hr6108 hP hD hS
    try dsimp only at hr6108
    refine Kpdr (ws := [(h0, oX12 nw nk mhasKept nt mtaped nr mrowMany mroundOf mroundFrom mouts nm mfromHour mtoHour ns mfrom mto msort misFault mdeep mcoded mlines nl nc nF np ntr nb mbestCost nso nsi nit nsh nsf nss nrc (nI jr16110) (nI jd) mnumber mwhose msize ip16111), (nrc, iA G 30 gtrc6112)]) hP hD (fun hP hD => ?_)
    obtain ⟨hr6108, w6113⟩ := hr6108
    refine lv_isub hx hb gX12_body_17.2.2.2.2.2.2.2.1 ?_
    refine toQ hQ0 ?_
    exact RI (v := r6101 - r6108) hC hP hD hS [0, 1] (jr16110, ip16111, gtrc6112) rfl rfl (by decide) (⟨trivial, by omega⟩) rfl gX12_body_17.2.2.2.2.2.2.2.2
  · refine lv_iconst (v := 0) hx hb gX12_body_16.2.2.2.2.2.2.2.2.2 (by decide) ?_
    refine lv_goto (tgt := 391) hx hb gX12_body_17.1 (by decide) ?_
    refine toQ hQ0 ?_
    exact RI (v := 0) hC hP hD hS [0, 1] (jr16103, ip16104, gtrc6105) rfl rfl (by decide) (⟨trivial, by omega⟩) rfl gX12_body_17.2.2.2.2.2.2.2.2
def K_m_from63 (l : Launch) (G : GG) (h0 : Nat) (xx : Int32) (nw : Nat) (nk : Nat) (mhasKept : Int32) (nt : Nat) (mtaped : Int32) (nr : Nat) (mrowMany : Int32) (mroundOf : Int32) (mroundFrom : Int32) (mouts : Int32) (nm : Nat) (mfromHour : Int32) (mtoHour : Int32) (ns : Nat) (mfrom : Int32) (mto : Int32) (msort : Int32) (misFault : Int32) (mdeep : Int32) (mcoded : Int32) (mlines : Int32) (nl : Nat) (nc : Nat) (nF : Nat) (np : Nat) (ntr : Nat) (nb : Nat) (mbestCost : Int32) (nso : Nat) (nsi : Nat) (nit : Nat) (nsh : Nat) (nsf : Nat) (nss : Nat) (nrc : Nat) (jr : Nat) (jd : Nat) (mnumber : Int32) (mwhose : Int32) (msize : Int32) (misParted : Int32) (fnrc : Nat → Int32) : Prop := MI l G yX12_bodyFrom cX12_bodyFrom 5 (some .int) 46 0 0 [.ref h0, .int 6, .int 3, .int xx] [(h0, oX12 nw nk mhasKept nt mtaped nr mrowMany mroundOf mroundFrom mouts nm mfromHour mtoHour ns mfrom mto msort misFault mdeep mcoded mlines nl nc nF np ntr nb mbestCost nso nsi nit nsh nsf nss nrc (nI jr) (nI jd) mnumber mwhose msize misParted), (nrc, iA G 30 fnrc)] (fun (r : Int32) (u : Nat × Int32 × (Nat → Int32)) => (True) ∧ (u.1 ≤ 30)) (fun u : Nat × Int32 × (Nat → Int32) => [(h0, oX12 nw nk mhasKept nt mtaped nr mrowMany mroundOf mroundFrom mouts nm mfromHour mtoHour ns mfrom mto msort misFault mdeep mcoded mlines nl nc nF np ntr nb mbestCost nso nsi nit nsh nsf nss nrc (nI u.1) (nI jd) mnumber mwhose msize u.2.1), (nrc, iA G 30 u.2.2)])
set_option maxHeartbeats 4000000 in
set_option maxRecDepth 100000 in
theorem m_from63 (l : Launch) (G : GG) (h0 : Nat) (xx : Int32) (nw : Nat) (nk : Nat) (mhasKept : Int32) (nt : Nat) (mtaped : Int32) (nr : Nat) (mrowMany : Int32) (mroundOf : Int32) (mroundFrom : Int32) (mouts : Int32) (nm : Nat) (mfromHour : Int32) (mtoHour : Int32) (ns : Nat) (mfrom : Int32) (mto : Int32) (msort : Int32) (misFault : Int32) (mdeep : Int32) (mcoded : Int32) (mlines : Int32) (nl : Nat) (nc : Nat) (nF : Nat) (np : Nat) (ntr : Nat) (nb : Nat) (mbestCost : Int32) (nso : Nat) (nsi : Nat) (nit : Nat) (nsh : Nat) (nsf : Nat) (nss : Nat) (nrc : Nat) (jr : Nat) (jd : Nat) (mnumber : Int32) (mwhose : Int32) (msize : Int32) (misParted : Int32) (fnrc : Nat → Int32) (hjr : jr ≤ 30) (hjd : jd < 7) : K_m_from63 l G h0 xx nw nk mhasKept nt mtaped nr mrowMany mroundOf mroundFrom mouts nm mfromHour mtoHour ns mfrom mto msort misFault mdeep mcoded mlines nl nc nF np ntr nb mbestCost nso nsi nit nsh nsf nss nrc jr jd mnumber mwhose msize misParted fnrc := by
  refine MI.start (by decide +kernel) (Nat.le_of_ble_eq_true rfl) ?_
  intro p e s m below meth c A ls hC hK hP hD hS hA hl
  refine absQ (fun Q0 hQ0 => ?_)
  have hl : lv_has ls 5 [(0, .ref h0), (1, .int 6), (2, .int 3), (3, .int xx)] := hl
  refine Kan8 hC (fun hx hb hr hml hB hown hlocks hnm => ?_)
  refine lv_iload_n hx hb gX12_bodyFrom_0.1 rfl (lv_at1 hl) ?_
  refine lv_istore (lv' := [(4, .int 6), (0, .ref h0), (1, .int 6), (2, .int 3), (3, .int xx)]) hx hb gX12_bodyFrom_0.2.1 hl (by decide) rfl (fun ls hl => ?_)
  refine lv_iload hx hb gX12_bodyFrom_0.2.2.1 (lv_at0 hl) ?_
  refine lv_iload_n hx hb gX12_bodyFrom_0.2.2.2.1 rfl (lv_at3 hl) ?_
  refine pS hC hK hl (m_hasOwn63 l G) si_X12_360 rfl rfl (Nat.le_of_ble_eq_true rfl) rm_46_1_2 ⟨by first | exact Nat.le_of_ble_eq_true rfl | exact Nat.zero_le _, by first | exact Nat.le_of_ble_eq_true rfl | exact Nat.zero_le _⟩ gX12_bodyFrom_0.2.2.2.2.1 (Keqr ?_)
  refine lv_if_ne (tgt := 22) hx hb gX12_bodyFrom_0.2.2.2.2.2.1 (by decide) (fun _ => ?_) (fun c9 => absurd c9 (by decide))
  refine lv_aload_n hx hb gX12_bodyFrom_1.1 rfl (lv_at1 hl) ?_
  refine lv_iload hx hb gX12_bodyFrom_1.2.1 (lv_at0 hl) ?_
  refine lv_iload_n hx hb gX12_bodyFrom_1.2.2.1 rfl (lv_at3 hl) ?_
  refine lv_iload_n hx hb gX12_bodyFrom_1.2.2.2.1 rfl (lv_at4 hl) ?_
  refine iV (wr := []) hC hK hl hP hD hS hA (m_body63 l G h0 xx nw nk mhasKept nt mtaped nr mrowMany mroundOf mroundFrom mouts nm mfromHour mtoHour ns mfrom mto msort misFault mdeep mcoded mlines nl nc nF np ntr nb mbestCost nso nsi nit nsh nsf nss nrc jr jd mnumber mwhose msize misParted fnrc (hjr) (hjd)) si_X12_363 [0, 1] [] sm_0_1 fm_0_1 nd_0_1 rfl rfl (by decide) rfl rfl rfl rfl rfl (Nat.le_of_ble_eq_true rfl) rm_46_45_6 ⟨Nat.le_of_ble_eq_true rfl, Nat.le_of_ble_eq_true rfl⟩ gX12_bodyFrom_1.2.2.2.2.1 (fun r6116 => Ktu3 fun jr16118 ip16119 gtrc6120 => ?_)
  intro H locs hr6116 hP hD hS
  try dsimp only at hr6116
  refine Kpdr (ws := [(h0, oX12 nw nk mhasKept nt mtaped nr mrowMany mroundOf mroundFrom mouts nm mfromHour mtoHour ns mfrom mto msort misFault mdeep mcoded mlines nl nc nF np ntr nb mbestCost nso nsi nit nsh nsf nss nrc (nI jr16118) (nI jd) mnumber mwhose msize ip16119), (nrc, iA G 30 gtrc6120)]) hP hD (fun hP hD => ?_)
  obtain ⟨hr6116, w6121⟩ := hr6116
  refine toQ hQ0 ?_
  exact RI (v := r6116) hC hP hD hS [0, 1] (jr16118, ip16119, gtrc6120) rfl rfl (by decide) (⟨trivial, by omega⟩) rfl gX12_bodyFrom_1.2.2.2.2.2
def K_m_from23 (l : Launch) (G : GG) (h0 : Nat) (xx : Int32) (nw : Nat) (nk : Nat) (mhasKept : Int32) (nt : Nat) (mtaped : Int32) (nr : Nat) (mrowMany : Int32) (mroundOf : Int32) (mroundFrom : Int32) (mouts : Int32) (nm : Nat) (mfromHour : Int32) (mtoHour : Int32) (ns : Nat) (mfrom : Int32) (mto : Int32) (msort : Int32) (misFault : Int32) (mdeep : Int32) (mcoded : Int32) (mlines : Int32) (nl : Nat) (nc : Nat) (nF : Nat) (np : Nat) (ntr : Nat) (nb : Nat) (mbestCost : Int32) (nso : Nat) (nsi : Nat) (nit : Nat) (nsh : Nat) (nsf : Nat) (nss : Nat) (nrc : Nat) (jr : Nat) (jd : Nat) (mnumber : Int32) (mwhose : Int32) (msize : Int32) (misParted : Int32) (fnrc : Nat → Int32) : Prop := MI l G yX12_bodyFrom cX12_bodyFrom 5 (some .int) 48 0 0 [.ref h0, .int 2, .int 3, .int xx] [(h0, oX12 nw nk mhasKept nt mtaped nr mrowMany mroundOf mroundFrom mouts nm mfromHour mtoHour ns mfrom mto msort misFault mdeep mcoded mlines nl nc nF np ntr nb mbestCost nso nsi nit nsh nsf nss nrc (nI jr) (nI jd) mnumber mwhose msize misParted), (nrc, iA G 30 fnrc)] (fun (r : Int32) (u : Nat × Int32 × (Nat → Int32)) => (True) ∧ (u.1 ≤ 30)) (fun u : Nat × Int32 × (Nat → Int32) => [(h0, oX12 nw nk mhasKept nt mtaped nr mrowMany mroundOf mroundFrom mouts nm mfromHour mtoHour ns mfrom mto msort misFault mdeep mcoded mlines nl nc nF np ntr nb mbestCost nso nsi nit nsh nsf nss nrc (nI u.1) (nI jd) mnumber mwhose msize u.2.1), (nrc, iA G 30 u.2.2)])
set_option maxHeartbeats 4000000 in
set_option maxRecDepth 100000 in
theorem m_from23 (l : Launch) (G : GG) (h0 : Nat) (xx : Int32) (nw : Nat) (nk : Nat) (mhasKept : Int32) (nt : Nat) (mtaped : Int32) (nr : Nat) (mrowMany : Int32) (mroundOf : Int32) (mroundFrom : Int32) (mouts : Int32) (nm : Nat) (mfromHour : Int32) (mtoHour : Int32) (ns : Nat) (mfrom : Int32) (mto : Int32) (msort : Int32) (misFault : Int32) (mdeep : Int32) (mcoded : Int32) (mlines : Int32) (nl : Nat) (nc : Nat) (nF : Nat) (np : Nat) (ntr : Nat) (nb : Nat) (mbestCost : Int32) (nso : Nat) (nsi : Nat) (nit : Nat) (nsh : Nat) (nsf : Nat) (nss : Nat) (nrc : Nat) (jr : Nat) (jd : Nat) (mnumber : Int32) (mwhose : Int32) (msize : Int32) (misParted : Int32) (fnrc : Nat → Int32) (hjr : jr ≤ 30) (hjd : jd < 7) : K_m_from23 l G h0 xx nw nk mhasKept nt mtaped nr mrowMany mroundOf mroundFrom mouts nm mfromHour mtoHour ns mfrom mto msort misFault mdeep mcoded mlines nl nc nF np ntr nb mbestCost nso nsi nit nsh nsf nss nrc jr jd mnumber mwhose msize misParted fnrc := by
  refine MI.start (by decide +kernel) (Nat.le_of_ble_eq_true rfl) ?_
  intro p e s m below meth c A ls hC hK hP hD hS hA hl
  refine absQ (fun Q0 hQ0 => ?_)
  have hl : lv_has ls 5 [(0, .ref h0), (1, .int 2), (2, .int 3), (3, .int xx)] := hl
  refine Kan8 hC (fun hx hb hr hml hB hown hlocks hnm => ?_)
  refine lv_iload_n hx hb gX12_bodyFrom_0.1 rfl (lv_at1 hl) ?_
  refine lv_istore (lv' := [(4, .int 2), (0, .ref h0), (1, .int 2), (2, .int 3), (3, .int xx)]) hx hb gX12_bodyFrom_0.2.1 hl (by decide) rfl (fun ls hl => ?_)
  refine lv_iload hx hb gX12_bodyFrom_0.2.2.1 (lv_at0 hl) ?_
  refine lv_iload_n hx hb gX12_bodyFrom_0.2.2.2.1 rfl (lv_at3 hl) ?_
  refine pS hC hK hl (m_hasOwn23 l G) si_X12_360 rfl rfl (Nat.le_of_ble_eq_true rfl) rm_48_1_2 ⟨by first | exact Nat.le_of_ble_eq_true rfl | exact Nat.zero_le _, by first | exact Nat.le_of_ble_eq_true rfl | exact Nat.zero_le _⟩ gX12_bodyFrom_0.2.2.2.2.1 (Keqr ?_)
  refine lv_if_ne (tgt := 22) hx hb gX12_bodyFrom_0.2.2.2.2.2.1 (by decide) (fun c9 => absurd (by decide) c9) (fun _ => ?_)
  refine lv_iload hx hb gX12_bodyFrom_0.2.2.2.2.2.2.1 (lv_at0 hl) ?_
  refine pS hC hK hl (m_above2 l G) si_X12_348 rfl rfl (Nat.le_of_ble_eq_true rfl) rm_48_1_1 ⟨by first | exact Nat.le_of_ble_eq_true rfl | exact Nat.zero_le _, by first | exact Nat.le_of_ble_eq_true rfl | exact Nat.zero_le _⟩ gX12_bodyFrom_0.2.2.2.2.2.2.2.1 (Keqr ?_)
  refine lv_istore (lv' := [(4, .int 0), (0, .ref h0), (1, .int 2), (2, .int 3), (3, .int xx)]) hx hb gX12_bodyFrom_0.2.2.2.2.2.2.2.2.1 hl (by decide) rfl (fun ls hl => ?_)
  refine lv_goto (tgt := 3) hx hb gX12_bodyFrom_0.2.2.2.2.2.2.2.2.2 (by decide) ?_
  refine lv_iload hx hb gX12_bodyFrom_0.2.2.1 (lv_at0 hl) ?_
  refine lv_iload_n hx hb gX12_bodyFrom_0.2.2.2.1 rfl (lv_at3 hl) ?_
  refine pS hC hK hl (m_hasOwn03 l G) si_X12_360 rfl rfl (Nat.le_of_ble_eq_true rfl) rm_48_1_2 ⟨by first | exact Nat.le_of_ble_eq_true rfl | exact Nat.zero_le _, by first | exact Nat.le_of_ble_eq_true rfl | exact Nat.zero_le _⟩ gX12_bodyFrom_0.2.2.2.2.1 (Keqr ?_)
  refine lv_if_ne (tgt := 22) hx hb gX12_bodyFrom_0.2.2.2.2.2.1 (by decide) (fun _ => ?_) (fun c9 => absurd c9 (by decide))
  refine lv_aload_n hx hb gX12_bodyFrom_1.1 rfl (lv_at1 hl) ?_
  refine lv_iload hx hb gX12_bodyFrom_1.2.1 (lv_at0 hl) ?_
  refine lv_iload_n hx hb gX12_bodyFrom_1.2.2.1 rfl (lv_at3 hl) ?_
  refine lv_iload_n hx hb gX12_bodyFrom_1.2.2.2.1 rfl (lv_at4 hl) ?_
  refine iV (wr := []) hC hK hl hP hD hS hA (m_body03 l G h0 xx nw nk mhasKept nt mtaped nr mrowMany mroundOf mroundFrom mouts nm mfromHour mtoHour ns mfrom mto msort misFault mdeep mcoded mlines nl nc nF np ntr nb mbestCost nso nsi nit nsh nsf nss nrc jr jd mnumber mwhose msize misParted fnrc (hjr) (hjd)) si_X12_363 [0, 1] [] sm_0_1 fm_0_1 nd_0_1 rfl rfl (by decide) rfl rfl rfl rfl rfl (Nat.le_of_ble_eq_true rfl) rm_48_39_6 ⟨Nat.le_of_ble_eq_true rfl, Nat.le_of_ble_eq_true rfl⟩ gX12_bodyFrom_1.2.2.2.2.1 (fun r6128 => Ktu3 fun jr16130 ip16131 gtrc6132 => ?_)
  intro H locs hr6128 hP hD hS
  try dsimp only at hr6128
  refine Kpdr (ws := [(h0, oX12 nw nk mhasKept nt mtaped nr mrowMany mroundOf mroundFrom mouts nm mfromHour mtoHour ns mfrom mto msort misFault mdeep mcoded mlines nl nc nF np ntr nb mbestCost nso nsi nit nsh nsf nss nrc (nI jr16130) (nI jd) mnumber mwhose msize ip16131), (nrc, iA G 30 gtrc6132)]) hP hD (fun hP hD => ?_)
  obtain ⟨hr6128, w6133⟩ := hr6128
  refine toQ hQ0 ?_
  exact RI (v := r6128) hC hP hD hS [0, 1] (jr16130, ip16131, gtrc6132) rfl rfl (by decide) (⟨trivial, by omega⟩) rfl gX12_bodyFrom_1.2.2.2.2.2
def K_m_from43 (l : Launch) (G : GG) (h0 : Nat) (xx : Int32) (nw : Nat) (nk : Nat) (mhasKept : Int32) (nt : Nat) (mtaped : Int32) (nr : Nat) (mrowMany : Int32) (mroundOf : Int32) (mroundFrom : Int32) (mouts : Int32) (nm : Nat) (mfromHour : Int32) (mtoHour : Int32) (ns : Nat) (mfrom : Int32) (mto : Int32) (msort : Int32) (misFault : Int32) (mdeep : Int32) (mcoded : Int32) (mlines : Int32) (nl : Nat) (nc : Nat) (nF : Nat) (np : Nat) (ntr : Nat) (nb : Nat) (mbestCost : Int32) (nso : Nat) (nsi : Nat) (nit : Nat) (nsh : Nat) (nsf : Nat) (nss : Nat) (nrc : Nat) (jr : Nat) (jd : Nat) (mnumber : Int32) (mwhose : Int32) (msize : Int32) (misParted : Int32) (fnrc : Nat → Int32) : Prop := MI l G yX12_bodyFrom cX12_bodyFrom 5 (some .int) 48 0 0 [.ref h0, .int 4, .int 3, .int xx] [(h0, oX12 nw nk mhasKept nt mtaped nr mrowMany mroundOf mroundFrom mouts nm mfromHour mtoHour ns mfrom mto msort misFault mdeep mcoded mlines nl nc nF np ntr nb mbestCost nso nsi nit nsh nsf nss nrc (nI jr) (nI jd) mnumber mwhose msize misParted), (nrc, iA G 30 fnrc)] (fun (r : Int32) (u : Nat × Int32 × (Nat → Int32)) => (True) ∧ (u.1 ≤ 30)) (fun u : Nat × Int32 × (Nat → Int32) => [(h0, oX12 nw nk mhasKept nt mtaped nr mrowMany mroundOf mroundFrom mouts nm mfromHour mtoHour ns mfrom mto msort misFault mdeep mcoded mlines nl nc nF np ntr nb mbestCost nso nsi nit nsh nsf nss nrc (nI u.1) (nI jd) mnumber mwhose msize u.2.1), (nrc, iA G 30 u.2.2)])
set_option maxHeartbeats 4000000 in
set_option maxRecDepth 100000 in
theorem m_from43 (l : Launch) (G : GG) (h0 : Nat) (xx : Int32) (nw : Nat) (nk : Nat) (mhasKept : Int32) (nt : Nat) (mtaped : Int32) (nr : Nat) (mrowMany : Int32) (mroundOf : Int32) (mroundFrom : Int32) (mouts : Int32) (nm : Nat) (mfromHour : Int32) (mtoHour : Int32) (ns : Nat) (mfrom : Int32) (mto : Int32) (msort : Int32) (misFault : Int32) (mdeep : Int32) (mcoded : Int32) (mlines : Int32) (nl : Nat) (nc : Nat) (nF : Nat) (np : Nat) (ntr : Nat) (nb : Nat) (mbestCost : Int32) (nso : Nat) (nsi : Nat) (nit : Nat) (nsh : Nat) (nsf : Nat) (nss : Nat) (nrc : Nat) (jr : Nat) (jd : Nat) (mnumber : Int32) (mwhose : Int32) (msize : Int32) (misParted : Int32) (fnrc : Nat → Int32) (hjr : jr ≤ 30) (hjd : jd < 7) : K_m_from43 l G h0 xx nw nk mhasKept nt mtaped nr mrowMany mroundOf mroundFrom mouts nm mfromHour mtoHour ns mfrom mto msort misFault mdeep mcoded mlines nl nc nF np ntr nb mbestCost nso nsi nit nsh nsf nss nrc jr jd mnumber mwhose msize misParted fnrc := by
  refine MI.start (by decide +kernel) (Nat.le_of_ble_eq_true rfl) ?_
  intro p e s m below meth c A ls hC hK hP hD hS hA hl
  refine absQ (fun Q0 hQ0 => ?_)
  have hl : lv_has ls 5 [(0, .ref h0), (1, .int 4), (2, .int 3), (3, .int xx)] := hl
  refine Kan8 hC (fun hx hb hr hml hB hown hlocks hnm => ?_)
  refine lv_iload_n hx hb gX12_bodyFrom_0.1 rfl (lv_at1 hl) ?_
  refine lv_istore (lv' := [(4, .int 4), (0, .ref h0), (1, .int 4), (2, .int 3), (3, .int xx)]) hx hb gX12_bodyFrom_0.2.1 hl (by decide) rfl (fun ls hl => ?_)
  refine lv_iload hx hb gX12_bodyFrom_0.2.2.1 (lv_at0 hl) ?_
  refine lv_iload_n hx hb gX12_bodyFrom_0.2.2.2.1 rfl (lv_at3 hl) ?_
  refine pS hC hK hl (m_hasOwn43 l G) si_X12_360 rfl rfl (Nat.le_of_ble_eq_true rfl) rm_48_1_2 ⟨by first | exact Nat.le_of_ble_eq_true rfl | exact Nat.zero_le _, by first | exact Nat.le_of_ble_eq_true rfl | exact Nat.zero_le _⟩ gX12_bodyFrom_0.2.2.2.2.1 (Keqr ?_)
  refine lv_if_ne (tgt := 22) hx hb gX12_bodyFrom_0.2.2.2.2.2.1 (by decide) (fun c9 => absurd (by decide) c9) (fun _ => ?_)
  refine lv_iload hx hb gX12_bodyFrom_0.2.2.2.2.2.2.1 (lv_at0 hl) ?_
  refine pS hC hK hl (m_above4 l G) si_X12_348 rfl rfl (Nat.le_of_ble_eq_true rfl) rm_48_1_1 ⟨by first | exact Nat.le_of_ble_eq_true rfl | exact Nat.zero_le _, by first | exact Nat.le_of_ble_eq_true rfl | exact Nat.zero_le _⟩ gX12_bodyFrom_0.2.2.2.2.2.2.2.1 (Keqr ?_)
  refine lv_istore (lv' := [(4, .int 0), (0, .ref h0), (1, .int 4), (2, .int 3), (3, .int xx)]) hx hb gX12_bodyFrom_0.2.2.2.2.2.2.2.2.1 hl (by decide) rfl (fun ls hl => ?_)
  refine lv_goto (tgt := 3) hx hb gX12_bodyFrom_0.2.2.2.2.2.2.2.2.2 (by decide) ?_
  refine lv_iload hx hb gX12_bodyFrom_0.2.2.1 (lv_at0 hl) ?_
  refine lv_iload_n hx hb gX12_bodyFrom_0.2.2.2.1 rfl (lv_at3 hl) ?_
  refine pS hC hK hl (m_hasOwn03 l G) si_X12_360 rfl rfl (Nat.le_of_ble_eq_true rfl) rm_48_1_2 ⟨by first | exact Nat.le_of_ble_eq_true rfl | exact Nat.zero_le _, by first | exact Nat.le_of_ble_eq_true rfl | exact Nat.zero_le _⟩ gX12_bodyFrom_0.2.2.2.2.1 (Keqr ?_)
  refine lv_if_ne (tgt := 22) hx hb gX12_bodyFrom_0.2.2.2.2.2.1 (by decide) (fun _ => ?_) (fun c9 => absurd c9 (by decide))
  refine lv_aload_n hx hb gX12_bodyFrom_1.1 rfl (lv_at1 hl) ?_
  refine lv_iload hx hb gX12_bodyFrom_1.2.1 (lv_at0 hl) ?_
  refine lv_iload_n hx hb gX12_bodyFrom_1.2.2.1 rfl (lv_at3 hl) ?_
  refine lv_iload_n hx hb gX12_bodyFrom_1.2.2.2.1 rfl (lv_at4 hl) ?_
  refine iV (wr := []) hC hK hl hP hD hS hA (m_body03 l G h0 xx nw nk mhasKept nt mtaped nr mrowMany mroundOf mroundFrom mouts nm mfromHour mtoHour ns mfrom mto msort misFault mdeep mcoded mlines nl nc nF np ntr nb mbestCost nso nsi nit nsh nsf nss nrc jr jd mnumber mwhose msize misParted fnrc (hjr) (hjd)) si_X12_363 [0, 1] [] sm_0_1 fm_0_1 nd_0_1 rfl rfl (by decide) rfl rfl rfl rfl rfl (Nat.le_of_ble_eq_true rfl) rm_48_39_6 ⟨Nat.le_of_ble_eq_true rfl, Nat.le_of_ble_eq_true rfl⟩ gX12_bodyFrom_1.2.2.2.2.1 (fun r6140 => Ktu3 fun jr16142 ip16143 gtrc6144 => ?_)
  intro H locs hr6140 hP hD hS
  try dsimp only at hr6140
  refine Kpdr (ws := [(h0, oX12 nw nk mhasKept nt mtaped nr mrowMany mroundOf mroundFrom mouts nm mfromHour mtoHour ns mfrom mto msort misFault mdeep mcoded mlines nl nc nF np ntr nb mbestCost nso nsi nit nsh nsf nss nrc (nI jr16142) (nI jd) mnumber mwhose msize ip16143), (nrc, iA G 30 gtrc6144)]) hP hD (fun hP hD => ?_)
  obtain ⟨hr6140, w6145⟩ := hr6140
  refine toQ hQ0 ?_
  exact RI (v := r6140) hC hP hD hS [0, 1] (jr16142, ip16143, gtrc6144) rfl rfl (by decide) (⟨trivial, by omega⟩) rfl gX12_bodyFrom_1.2.2.2.2.2
def K_m_from53 (l : Launch) (G : GG) (h0 : Nat) (xx : Int32) (nw : Nat) (nk : Nat) (mhasKept : Int32) (nt : Nat) (mtaped : Int32) (nr : Nat) (mrowMany : Int32) (mroundOf : Int32) (mroundFrom : Int32) (mouts : Int32) (nm : Nat) (mfromHour : Int32) (mtoHour : Int32) (ns : Nat) (mfrom : Int32) (mto : Int32) (msort : Int32) (misFault : Int32) (mdeep : Int32) (mcoded : Int32) (mlines : Int32) (nl : Nat) (nc : Nat) (nF : Nat) (np : Nat) (ntr : Nat) (nb : Nat) (mbestCost : Int32) (nso : Nat) (nsi : Nat) (nit : Nat) (nsh : Nat) (nsf : Nat) (nss : Nat) (nrc : Nat) (jr : Nat) (jd : Nat) (mnumber : Int32) (mwhose : Int32) (msize : Int32) (misParted : Int32) (fnrc : Nat → Int32) : Prop := MI l G yX12_bodyFrom cX12_bodyFrom 5 (some .int) 48 0 0 [.ref h0, .int 5, .int 3, .int xx] [(h0, oX12 nw nk mhasKept nt mtaped nr mrowMany mroundOf mroundFrom mouts nm mfromHour mtoHour ns mfrom mto msort misFault mdeep mcoded mlines nl nc nF np ntr nb mbestCost nso nsi nit nsh nsf nss nrc (nI jr) (nI jd) mnumber mwhose msize misParted), (nrc, iA G 30 fnrc)] (fun (r : Int32) (u : Nat × Int32 × (Nat → Int32)) => (True) ∧ (u.1 ≤ 30)) (fun u : Nat × Int32 × (Nat → Int32) => [(h0, oX12 nw nk mhasKept nt mtaped nr mrowMany mroundOf mroundFrom mouts nm mfromHour mtoHour ns mfrom mto msort misFault mdeep mcoded mlines nl nc nF np ntr nb mbestCost nso nsi nit nsh nsf nss nrc (nI u.1) (nI jd) mnumber mwhose msize u.2.1), (nrc, iA G 30 u.2.2)])
set_option maxHeartbeats 4000000 in
set_option maxRecDepth 100000 in
theorem m_from53 (l : Launch) (G : GG) (h0 : Nat) (xx : Int32) (nw : Nat) (nk : Nat) (mhasKept : Int32) (nt : Nat) (mtaped : Int32) (nr : Nat) (mrowMany : Int32) (mroundOf : Int32) (mroundFrom : Int32) (mouts : Int32) (nm : Nat) (mfromHour : Int32) (mtoHour : Int32) (ns : Nat) (mfrom : Int32) (mto : Int32) (msort : Int32) (misFault : Int32) (mdeep : Int32) (mcoded : Int32) (mlines : Int32) (nl : Nat) (nc : Nat) (nF : Nat) (np : Nat) (ntr : Nat) (nb : Nat) (mbestCost : Int32) (nso : Nat) (nsi : Nat) (nit : Nat) (nsh : Nat) (nsf : Nat) (nss : Nat) (nrc : Nat) (jr : Nat) (jd : Nat) (mnumber : Int32) (mwhose : Int32) (msize : Int32) (misParted : Int32) (fnrc : Nat → Int32) (hjr : jr ≤ 30) (hjd : jd < 7) : K_m_from53 l G h0 xx nw nk mhasKept nt mtaped nr mrowMany mroundOf mroundFrom mouts nm mfromHour mtoHour ns mfrom mto msort misFault mdeep mcoded mlines nl nc nF np ntr nb mbestCost nso nsi nit nsh nsf nss nrc jr jd mnumber mwhose msize misParted fnrc := by
  refine MI.start (by decide +kernel) (Nat.le_of_ble_eq_true rfl) ?_
  intro p e s m below meth c A ls hC hK hP hD hS hA hl
  refine absQ (fun Q0 hQ0 => ?_)
  have hl : lv_has ls 5 [(0, .ref h0), (1, .int 5), (2, .int 3), (3, .int xx)] := hl
  refine Kan8 hC (fun hx hb hr hml hB hown hlocks hnm => ?_)
  refine lv_iload_n hx hb gX12_bodyFrom_0.1 rfl (lv_at1 hl) ?_
  refine lv_istore (lv' := [(4, .int 5), (0, .ref h0), (1, .int 5), (2, .int 3), (3, .int xx)]) hx hb gX12_bodyFrom_0.2.1 hl (by decide) rfl (fun ls hl => ?_)
  refine lv_iload hx hb gX12_bodyFrom_0.2.2.1 (lv_at0 hl) ?_
  refine lv_iload_n hx hb gX12_bodyFrom_0.2.2.2.1 rfl (lv_at3 hl) ?_
  refine pS hC hK hl (m_hasOwn53 l G) si_X12_360 rfl rfl (Nat.le_of_ble_eq_true rfl) rm_48_1_2 ⟨by first | exact Nat.le_of_ble_eq_true rfl | exact Nat.zero_le _, by first | exact Nat.le_of_ble_eq_true rfl | exact Nat.zero_le _⟩ gX12_bodyFrom_0.2.2.2.2.1 (Keqr ?_)
  refine lv_if_ne (tgt := 22) hx hb gX12_bodyFrom_0.2.2.2.2.2.1 (by decide) (fun c9 => absurd (by decide) c9) (fun _ => ?_)
  refine lv_iload hx hb gX12_bodyFrom_0.2.2.2.2.2.2.1 (lv_at0 hl) ?_
  refine pS hC hK hl (m_above5 l G) si_X12_348 rfl rfl (Nat.le_of_ble_eq_true rfl) rm_48_1_1 ⟨by first | exact Nat.le_of_ble_eq_true rfl | exact Nat.zero_le _, by first | exact Nat.le_of_ble_eq_true rfl | exact Nat.zero_le _⟩ gX12_bodyFrom_0.2.2.2.2.2.2.2.1 (Keqr ?_)
  refine lv_istore (lv' := [(4, .int 4), (0, .ref h0), (1, .int 5), (2, .int 3), (3, .int xx)]) hx hb gX12_bodyFrom_0.2.2.2.2.2.2.2.2.1 hl (by decide) rfl (fun ls hl => ?_)
  refine lv_goto (tgt := 3) hx hb gX12_bodyFrom_0.2.2.2.2.2.2.2.2.2 (by decide) ?_
  refine lv_iload hx hb gX12_bodyFrom_0.2.2.1 (lv_at0 hl) ?_
  refine lv_iload_n hx hb gX12_bodyFrom_0.2.2.2.1 rfl (lv_at3 hl) ?_
  refine pS hC hK hl (m_hasOwn43 l G) si_X12_360 rfl rfl (Nat.le_of_ble_eq_true rfl) rm_48_1_2 ⟨by first | exact Nat.le_of_ble_eq_true rfl | exact Nat.zero_le _, by first | exact Nat.le_of_ble_eq_true rfl | exact Nat.zero_le _⟩ gX12_bodyFrom_0.2.2.2.2.1 (Keqr ?_)
  refine lv_if_ne (tgt := 22) hx hb gX12_bodyFrom_0.2.2.2.2.2.1 (by decide) (fun c9 => absurd (by decide) c9) (fun _ => ?_)
  refine lv_iload hx hb gX12_bodyFrom_0.2.2.2.2.2.2.1 (lv_at0 hl) ?_
  refine pS hC hK hl (m_above4 l G) si_X12_348 rfl rfl (Nat.le_of_ble_eq_true rfl) rm_48_1_1 ⟨by first | exact Nat.le_of_ble_eq_true rfl | exact Nat.zero_le _, by first | exact Nat.le_of_ble_eq_true rfl | exact Nat.zero_le _⟩ gX12_bodyFrom_0.2.2.2.2.2.2.2.1 (Keqr ?_)
  refine lv_istore (lv' := [(4, .int 0), (0, .ref h0), (1, .int 5), (2, .int 3), (3, .int xx)]) hx hb gX12_bodyFrom_0.2.2.2.2.2.2.2.2.1 hl (by decide) rfl (fun ls hl => ?_)
  refine lv_goto (tgt := 3) hx hb gX12_bodyFrom_0.2.2.2.2.2.2.2.2.2 (by decide) ?_
  refine lv_iload hx hb gX12_bodyFrom_0.2.2.1 (lv_at0 hl) ?_
  refine lv_iload_n hx hb gX12_bodyFrom_0.2.2.2.1 rfl (lv_at3 hl) ?_
  refine pS hC hK hl (m_hasOwn03 l G) si_X12_360 rfl rfl (Nat.le_of_ble_eq_true rfl) rm_48_1_2 ⟨by first | exact Nat.le_of_ble_eq_true rfl | exact Nat.zero_le _, by first | exact Nat.le_of_ble_eq_true rfl | exact Nat.zero_le _⟩ gX12_bodyFrom_0.2.2.2.2.1 (Keqr ?_)
  refine lv_if_ne (tgt := 22) hx hb gX12_bodyFrom_0.2.2.2.2.2.1 (by decide) (fun _ => ?_) (fun c9 => absurd c9 (by decide))
  refine lv_aload_n hx hb gX12_bodyFrom_1.1 rfl (lv_at1 hl) ?_
  refine lv_iload hx hb gX12_bodyFrom_1.2.1 (lv_at0 hl) ?_
  refine lv_iload_n hx hb gX12_bodyFrom_1.2.2.1 rfl (lv_at3 hl) ?_
  refine lv_iload_n hx hb gX12_bodyFrom_1.2.2.2.1 rfl (lv_at4 hl) ?_
  refine iV (wr := []) hC hK hl hP hD hS hA (m_body03 l G h0 xx nw nk mhasKept nt mtaped nr mrowMany mroundOf mroundFrom mouts nm mfromHour mtoHour ns mfrom mto msort misFault mdeep mcoded mlines nl nc nF np ntr nb mbestCost nso nsi nit nsh nsf nss nrc jr jd mnumber mwhose msize misParted fnrc (hjr) (hjd)) si_X12_363 [0, 1] [] sm_0_1 fm_0_1 nd_0_1 rfl rfl (by decide) rfl rfl rfl rfl rfl (Nat.le_of_ble_eq_true rfl) rm_48_39_6 ⟨Nat.le_of_ble_eq_true rfl, Nat.le_of_ble_eq_true rfl⟩ gX12_bodyFrom_1.2.2.2.2.1 (fun r6156 => Ktu3 fun jr16158 ip16159 gtrc6160 => ?_)
  intro H locs hr6156 hP hD hS
  try dsimp only at hr6156
  refine Kpdr (ws := [(h0, oX12 nw nk mhasKept nt mtaped nr mrowMany mroundOf mroundFrom mouts nm mfromHour mtoHour ns mfrom mto msort misFault mdeep mcoded mlines nl nc nF np ntr nb mbestCost nso nsi nit nsh nsf nss nrc (nI jr16158) (nI jd) mnumber mwhose msize ip16159), (nrc, iA G 30 gtrc6160)]) hP hD (fun hP hD => ?_)
  obtain ⟨hr6156, w6161⟩ := hr6156
  refine toQ hQ0 ?_
  exact RI (v := r6156) hC hP hD hS [0, 1] (jr16158, ip16159, gtrc6160) rfl rfl (by decide) (⟨trivial, by omega⟩) rfl gX12_bodyFrom_1.2.2.2.2.2
def K_m_dealt3 (l : Launch) (G : GG) (h0 : Nat) (xx : Int32) (nw : Nat) (nk : Nat) (mhasKept : Int32) (nt : Nat) (mtaped : Int32) (nr : Nat) (mrowMany : Int32) (mroundOf : Int32) (mroundFrom : Int32) (mouts : Int32) (nm : Nat) (mfromHour : Int32) (mtoHour : Int32) (ns : Nat) (mfrom : Int32) (mto : Int32) (msort : Int32) (misFault : Int32) (mdeep : Int32) (mcoded : Int32) (mlines : Int32) (nl : Nat) (nc : Nat) (nF : Nat) (np : Nat) (ntr : Nat) (nb : Nat) (mbestCost : Int32) (nso : Nat) (nsi : Nat) (nit : Nat) (nsh : Nat) (nsf : Nat) (nss : Nat) (nrc : Nat) (jr : Nat) (jd : Nat) (mnumber : Int32) (mwhose : Int32) (msize : Int32) (misParted : Int32) (fnrc : Nat → Int32) : Prop := MI l G yX12_dealt cX12_dealt 3 (some .int) 50 0 0 [.ref h0, .int 3, .int xx] [(h0, oX12 nw nk mhasKept nt mtaped nr mrowMany mroundOf mroundFrom mouts nm mfromHour mtoHour ns mfrom mto msort misFault mdeep mcoded mlines nl nc nF np ntr nb mbestCost nso nsi nit nsh nsf nss nrc (nI jr) (nI jd) mnumber mwhose msize misParted), (nrc, iA G 30 fnrc)] (fun (r : Int32) (u : Nat × Int32 × (Nat → Int32)) => (True) ∧ (u.1 ≤ 30)) (fun u : Nat × Int32 × (Nat → Int32) => [(h0, oX12 nw nk mhasKept nt mtaped nr mrowMany mroundOf mroundFrom mouts nm mfromHour mtoHour ns mfrom mto msort misFault mdeep mcoded mlines nl nc nF np ntr nb mbestCost nso nsi nit nsh nsf nss nrc (nI u.1) (nI jd) mnumber mwhose msize u.2.1), (nrc, iA G 30 u.2.2)])
set_option maxHeartbeats 4000000 in
set_option maxRecDepth 100000 in
theorem m_dealt3 (l : Launch) (G : GG) (h0 : Nat) (xx : Int32) (nw : Nat) (nk : Nat) (mhasKept : Int32) (nt : Nat) (mtaped : Int32) (nr : Nat) (mrowMany : Int32) (mroundOf : Int32) (mroundFrom : Int32) (mouts : Int32) (nm : Nat) (mfromHour : Int32) (mtoHour : Int32) (ns : Nat) (mfrom : Int32) (mto : Int32) (msort : Int32) (misFault : Int32) (mdeep : Int32) (mcoded : Int32) (mlines : Int32) (nl : Nat) (nc : Nat) (nF : Nat) (np : Nat) (ntr : Nat) (nb : Nat) (mbestCost : Int32) (nso : Nat) (nsi : Nat) (nit : Nat) (nsh : Nat) (nsf : Nat) (nss : Nat) (nrc : Nat) (jr : Nat) (jd : Nat) (mnumber : Int32) (mwhose : Int32) (msize : Int32) (misParted : Int32) (fnrc : Nat → Int32) (hjr : jr ≤ 30) (hjd : jd < 7) : K_m_dealt3 l G h0 xx nw nk mhasKept nt mtaped nr mrowMany mroundOf mroundFrom mouts nm mfromHour mtoHour ns mfrom mto msort misFault mdeep mcoded mlines nl nc nF np ntr nb mbestCost nso nsi nit nsh nsf nss nrc jr jd mnumber mwhose msize misParted fnrc := by
  refine MI.start (by decide +kernel) (Nat.le_of_ble_eq_true rfl) ?_
  intro p e s m below meth c A ls hC hK hP hD hS hA hl
  refine absQ (fun Q0 hQ0 => ?_)
  have hl : lv_has ls 3 [(0, .ref h0), (1, .int 3), (2, .int xx)] := hl
  refine Kan8 hC (fun hx hb hr hml hB hown hlocks hnm => ?_)
  refine lv_aload_n hx hb gX12_dealt_0.1 rfl (lv_at0 hl) ?_
  refine lv_aload_n hx hb gX12_dealt_0.2.1 rfl (lv_at0 hl) ?_
  refine gf_X12_354 hC rfl hK hP 0 rfl rfl gX12_dealt_0.2.2.1 ?_
  refine lv_iload_n hx hb gX12_dealt_0.2.2.2.1 rfl (lv_at1 hl) ?_
  refine lv_iload_n hx hb gX12_dealt_0.2.2.2.2.1 rfl (lv_at2 hl) ?_
  rcases (show jd = 0 ∨ jd = 1 ∨ jd = 2 ∨ jd = 3 ∨ jd = 4 ∨ jd = 5 ∨ jd = 6 by omega) with rfl | rfl | rfl | rfl | rfl | rfl | rfl
  · refine iV (wr := []) hC hK hl hP hD hS hA (m_from03 l G h0 xx nw nk mhasKept nt mtaped nr mrowMany mroundOf mroundFrom mouts nm mfromHour mtoHour ns mfrom mto msort misFault mdeep mcoded mlines nl nc nF np ntr nb mbestCost nso nsi nit nsh nsf nss nrc jr 0 mnumber mwhose msize misParted fnrc (hjr) (hjd)) si_X12_357 [0, 1] [] sm_0_1 fm_0_1 nd_0_1 rfl rfl (by decide) rfl rfl rfl rfl rfl (Nat.le_of_ble_eq_true rfl) rm_50_40_5 ⟨Nat.le_of_ble_eq_true rfl, Nat.le_of_ble_eq_true rfl⟩ gX12_dealt_0.2.2.2.2.2.1 (fun r6162 => Ktu3 fun jr16164 ip16165 gtrc6166 => ?_)
    intro H locs hr6162 hP hD hS
    try dsimp only at hr6162
    refine Kpdr (ws := [(h0, oX12 nw nk mhasKept nt mtaped nr mrowMany mroundOf mroundFrom mouts nm mfromHour mtoHour ns mfrom mto msort misFault mdeep mcoded mlines nl nc nF np ntr nb mbestCost nso nsi nit nsh nsf nss nrc (nI jr16164) 0 mnumber mwhose msize ip16165), (nrc, iA G 30 gtrc6166)]) hP hD (fun hP hD => ?_)
    obtain ⟨hr6162, w6167⟩ := hr6162
    refine toQ hQ0 ?_
    exact RI (v := r6162) hC hP hD hS [0, 1] (jr16164, ip16165, gtrc6166) rfl rfl (by decide) (⟨trivial, by omega⟩) rfl gX12_dealt_0.2.2.2.2.2.2
  · refine iV (wr := []) hC hK hl hP hD hS hA (m_from13 l G h0 xx nw nk mhasKept nt mtaped nr mrowMany mroundOf mroundFrom mouts nm mfromHour mtoHour ns mfrom mto msort misFault mdeep mcoded mlines nl nc nF np ntr nb mbestCost nso nsi nit nsh nsf nss nrc jr 1 mnumber mwhose msize misParted fnrc (hjr) (hjd)) si_X12_357 [0, 1] [] sm_0_1 fm_0_1 nd_0_1 rfl rfl (by decide) rfl rfl rfl rfl rfl (Nat.le_of_ble_eq_true rfl) rm_50_42_5 ⟨Nat.le_of_ble_eq_true rfl, Nat.le_of_ble_eq_true rfl⟩ gX12_dealt_0.2.2.2.2.2.1 (fun r6168 => Ktu3 fun jr16170 ip16171 gtrc6172 => ?_)
    intro H locs hr6168 hP hD hS
    try dsimp only at hr6168
    refine Kpdr (ws := [(h0, oX12 nw nk mhasKept nt mtaped nr mrowMany mroundOf mroundFrom mouts nm mfromHour mtoHour ns mfrom mto msort misFault mdeep mcoded mlines nl nc nF np ntr nb mbestCost nso nsi nit nsh nsf nss nrc (nI jr16170) 1 mnumber mwhose msize ip16171), (nrc, iA G 30 gtrc6172)]) hP hD (fun hP hD => ?_)
    obtain ⟨hr6168, w6173⟩ := hr6168
    refine toQ hQ0 ?_
    exact RI (v := r6168) hC hP hD hS [0, 1] (jr16170, ip16171, gtrc6172) rfl rfl (by decide) (⟨trivial, by omega⟩) rfl gX12_dealt_0.2.2.2.2.2.2
  · refine iV (wr := []) hC hK hl hP hD hS hA (m_from23 l G h0 xx nw nk mhasKept nt mtaped nr mrowMany mroundOf mroundFrom mouts nm mfromHour mtoHour ns mfrom mto msort misFault mdeep mcoded mlines nl nc nF np ntr nb mbestCost nso nsi nit nsh nsf nss nrc jr 2 mnumber mwhose msize misParted fnrc (hjr) (hjd)) si_X12_357 [0, 1] [] sm_0_1 fm_0_1 nd_0_1 rfl rfl (by decide) rfl rfl rfl rfl rfl (Nat.le_of_ble_eq_true rfl) rm_50_48_5 ⟨Nat.le_of_ble_eq_true rfl, Nat.le_of_ble_eq_true rfl⟩ gX12_dealt_0.2.2.2.2.2.1 (fun r6174 => Ktu3 fun jr16176 ip16177 gtrc6178 => ?_)
    intro H locs hr6174 hP hD hS
    try dsimp only at hr6174
    refine Kpdr (ws := [(h0, oX12 nw nk mhasKept nt mtaped nr mrowMany mroundOf mroundFrom mouts nm mfromHour mtoHour ns mfrom mto msort misFault mdeep mcoded mlines nl nc nF np ntr nb mbestCost nso nsi nit nsh nsf nss nrc (nI jr16176) 2 mnumber mwhose msize ip16177), (nrc, iA G 30 gtrc6178)]) hP hD (fun hP hD => ?_)
    obtain ⟨hr6174, w6179⟩ := hr6174
    refine toQ hQ0 ?_
    exact RI (v := r6174) hC hP hD hS [0, 1] (jr16176, ip16177, gtrc6178) rfl rfl (by decide) (⟨trivial, by omega⟩) rfl gX12_dealt_0.2.2.2.2.2.2
  · refine iV (wr := []) hC hK hl hP hD hS hA (m_from33 l G h0 xx nw nk mhasKept nt mtaped nr mrowMany mroundOf mroundFrom mouts nm mfromHour mtoHour ns mfrom mto msort misFault mdeep mcoded mlines nl nc nF np ntr nb mbestCost nso nsi nit nsh nsf nss nrc jr 3 mnumber mwhose msize misParted fnrc (hjr) (hjd)) si_X12_357 [0, 1] [] sm_0_1 fm_0_1 nd_0_1 rfl rfl (by decide) rfl rfl rfl rfl rfl (Nat.le_of_ble_eq_true rfl) rm_50_44_5 ⟨Nat.le_of_ble_eq_true rfl, Nat.le_of_ble_eq_true rfl⟩ gX12_dealt_0.2.2.2.2.2.1 (fun r6180 => Ktu3 fun jr16182 ip16183 gtrc6184 => ?_)
    intro H locs hr6180 hP hD hS
    try dsimp only at hr6180
    refine Kpdr (ws := [(h0, oX12 nw nk mhasKept nt mtaped nr mrowMany mroundOf mroundFrom mouts nm mfromHour mtoHour ns mfrom mto msort misFault mdeep mcoded mlines nl nc nF np ntr nb mbestCost nso nsi nit nsh nsf nss nrc (nI jr16182) 3 mnumber mwhose msize ip16183), (nrc, iA G 30 gtrc6184)]) hP hD (fun hP hD => ?_)
    obtain ⟨hr6180, w6185⟩ := hr6180
    refine toQ hQ0 ?_
    exact RI (v := r6180) hC hP hD hS [0, 1] (jr16182, ip16183, gtrc6184) rfl rfl (by decide) (⟨trivial, by omega⟩) rfl gX12_dealt_0.2.2.2.2.2.2
  · refine iV (wr := []) hC hK hl hP hD hS hA (m_from43 l G h0 xx nw nk mhasKept nt mtaped nr mrowMany mroundOf mroundFrom mouts nm mfromHour mtoHour ns mfrom mto msort misFault mdeep mcoded mlines nl nc nF np ntr nb mbestCost nso nsi nit nsh nsf nss nrc jr 4 mnumber mwhose msize misParted fnrc (hjr) (hjd)) si_X12_357 [0, 1] [] sm_0_1 fm_0_1 nd_0_1 rfl rfl (by decide) rfl rfl rfl rfl rfl (Nat.le_of_ble_eq_true rfl) rm_50_48_5 ⟨Nat.le_of_ble_eq_true rfl, Nat.le_of_ble_eq_true rfl⟩ gX12_dealt_0.2.2.2.2.2.1 (fun r6186 => Ktu3 fun jr16188 ip16189 gtrc6190 => ?_)
    intro H locs hr6186 hP hD hS
    try dsimp only at hr6186
    refine Kpdr (ws := [(h0, oX12 nw nk mhasKept nt mtaped nr mrowMany mroundOf mroundFrom mouts nm mfromHour mtoHour ns mfrom mto msort misFault mdeep mcoded mlines nl nc nF np ntr nb mbestCost nso nsi nit nsh nsf nss nrc (nI jr16188) 4 mnumber mwhose msize ip16189), (nrc, iA G 30 gtrc6190)]) hP hD (fun hP hD => ?_)
    obtain ⟨hr6186, w6191⟩ := hr6186
    refine toQ hQ0 ?_
    exact RI (v := r6186) hC hP hD hS [0, 1] (jr16188, ip16189, gtrc6190) rfl rfl (by decide) (⟨trivial, by omega⟩) rfl gX12_dealt_0.2.2.2.2.2.2
  · refine iV (wr := []) hC hK hl hP hD hS hA (m_from53 l G h0 xx nw nk mhasKept nt mtaped nr mrowMany mroundOf mroundFrom mouts nm mfromHour mtoHour ns mfrom mto msort misFault mdeep mcoded mlines nl nc nF np ntr nb mbestCost nso nsi nit nsh nsf nss nrc jr 5 mnumber mwhose msize misParted fnrc (hjr) (hjd)) si_X12_357 [0, 1] [] sm_0_1 fm_0_1 nd_0_1 rfl rfl (by decide) rfl rfl rfl rfl rfl (Nat.le_of_ble_eq_true rfl) rm_50_48_5 ⟨Nat.le_of_ble_eq_true rfl, Nat.le_of_ble_eq_true rfl⟩ gX12_dealt_0.2.2.2.2.2.1 (fun r6192 => Ktu3 fun jr16194 ip16195 gtrc6196 => ?_)
    intro H locs hr6192 hP hD hS
    try dsimp only at hr6192
    refine Kpdr (ws := [(h0, oX12 nw nk mhasKept nt mtaped nr mrowMany mroundOf mroundFrom mouts nm mfromHour mtoHour ns mfrom mto msort misFault mdeep mcoded mlines nl nc nF np ntr nb mbestCost nso nsi nit nsh nsf nss nrc (nI jr16194) 5 mnumber mwhose msize ip16195), (nrc, iA G 30 gtrc6196)]) hP hD (fun hP hD => ?_)
    obtain ⟨hr6192, w6197⟩ := hr6192
    refine toQ hQ0 ?_
    exact RI (v := r6192) hC hP hD hS [0, 1] (jr16194, ip16195, gtrc6196) rfl rfl (by decide) (⟨trivial, by omega⟩) rfl gX12_dealt_0.2.2.2.2.2.2
  · refine iV (wr := []) hC hK hl hP hD hS hA (m_from63 l G h0 xx nw nk mhasKept nt mtaped nr mrowMany mroundOf mroundFrom mouts nm mfromHour mtoHour ns mfrom mto msort misFault mdeep mcoded mlines nl nc nF np ntr nb mbestCost nso nsi nit nsh nsf nss nrc jr 6 mnumber mwhose msize misParted fnrc (hjr) (hjd)) si_X12_357 [0, 1] [] sm_0_1 fm_0_1 nd_0_1 rfl rfl (by decide) rfl rfl rfl rfl rfl (Nat.le_of_ble_eq_true rfl) rm_50_46_5 ⟨Nat.le_of_ble_eq_true rfl, Nat.le_of_ble_eq_true rfl⟩ gX12_dealt_0.2.2.2.2.2.1 (fun r6198 => Ktu3 fun jr16200 ip16201 gtrc6202 => ?_)
    intro H locs hr6198 hP hD hS
    try dsimp only at hr6198
    refine Kpdr (ws := [(h0, oX12 nw nk mhasKept nt mtaped nr mrowMany mroundOf mroundFrom mouts nm mfromHour mtoHour ns mfrom mto msort misFault mdeep mcoded mlines nl nc nF np ntr nb mbestCost nso nsi nit nsh nsf nss nrc (nI jr16200) 6 mnumber mwhose msize ip16201), (nrc, iA G 30 gtrc6202)]) hP hD (fun hP hD => ?_)
    obtain ⟨hr6198, w6203⟩ := hr6198
    refine toQ hQ0 ?_
    exact RI (v := r6198) hC hP hD hS [0, 1] (jr16200, ip16201, gtrc6202) rfl rfl (by decide) (⟨trivial, by omega⟩) rfl gX12_dealt_0.2.2.2.2.2.2
def K_w_deal (l : Launch) (G : GG) (h0 : Nat) (x1 : Int32) (x2 : Int32) (x3 : Int32) (nw : Nat) (nk : Nat) (mhasKept : Int32) (nt : Nat) (mtaped : Int32) (nr : Nat) (mrowMany : Int32) (mroundOf : Int32) (mroundFrom : Int32) (mouts : Int32) (nm : Nat) (mfromHour : Int32) (mtoHour : Int32) (ns : Nat) (mfrom : Int32) (mto : Int32) (msort : Int32) (misFault : Int32) (mdeep : Int32) (mcoded : Int32) (mlines : Int32) (nl : Nat) (nc : Nat) (nF : Nat) (np : Nat) (ntr : Nat) (nb : Nat) (mbestCost : Int32) (nso : Nat) (nsi : Nat) (nit : Nat) (nsh : Nat) (nsf : Nat) (nss : Nat) (nrc : Nat) (mtraced : Int32) (mdealer : Int32) (mnumber : Int32) (mwhose : Int32) (msize : Int32) (misParted : Int32) (fnw : Nat → Int32) (fnsh : Nat → Int32) (fnsf : Nat → Int32) (fnrc : Nat → Int32) : Prop := MI l G yX12_deal cX12_deal 8 (some .int) 60 0 0 [.ref h0, .int x1, .int x2, .int x3] [(h0, oX12 nw nk mhasKept nt mtaped nr mrowMany mroundOf mroundFrom mouts nm mfromHour mtoHour ns mfrom mto msort misFault mdeep mcoded mlines nl nc nF np ntr nb mbestCost nso nsi nit nsh nsf nss nrc mtraced mdealer mnumber mwhose msize misParted), (nw, iA G 1662 fnw), (nsh, iA G 4 fnsh), (nsf, iA G 4 fnsf), (nrc, iA G 30 fnrc)] (fun (r : Int32) (u : Nat × Int32 × Int32 × Int32 × Int32 × Int32 × (Nat → Int32)) => (True) ∧ (u.1 ≤ 30)) (fun u : Nat × Int32 × Int32 × Int32 × Int32 × Int32 × (Nat → Int32) => [(h0, oX12 nw nk mhasKept nt mtaped nr mrowMany mroundOf mroundFrom mouts nm mfromHour mtoHour ns mfrom mto msort misFault mdeep mcoded mlines nl nc nF np ntr nb mbestCost nso nsi nit nsh nsf nss nrc (nI u.1) u.2.1 u.2.2.1 u.2.2.2.1 u.2.2.2.2.1 u.2.2.2.2.2.1), (nw, iA G 1662 fnw), (nsh, iA G 4 fnsh), (nsf, iA G 4 fnsf), (nrc, iA G 30 u.2.2.2.2.2.2)])
set_option maxHeartbeats 4000000 in
set_option maxRecDepth 100000 in
theorem w_deal (l : Launch) (G : GG) (h0 : Nat) (x1 : Int32) (x2 : Int32) (x3 : Int32) (nw : Nat) (nk : Nat) (mhasKept : Int32) (nt : Nat) (mtaped : Int32) (nr : Nat) (mrowMany : Int32) (mroundOf : Int32) (mroundFrom : Int32) (mouts : Int32) (nm : Nat) (mfromHour : Int32) (mtoHour : Int32) (ns : Nat) (mfrom : Int32) (mto : Int32) (msort : Int32) (misFault : Int32) (mdeep : Int32) (mcoded : Int32) (mlines : Int32) (nl : Nat) (nc : Nat) (nF : Nat) (np : Nat) (ntr : Nat) (nb : Nat) (mbestCost : Int32) (nso : Nat) (nsi : Nat) (nit : Nat) (nsh : Nat) (nsf : Nat) (nss : Nat) (nrc : Nat) (mtraced : Int32) (mdealer : Int32) (mnumber : Int32) (mwhose : Int32) (msize : Int32) (misParted : Int32) (fnw : Nat → Int32) (fnsh : Nat → Int32) (fnsf : Nat → Int32) (fnrc : Nat → Int32) (hN : NI fnw) : K_w_deal l G h0 x1 x2 x3 nw nk mhasKept nt mtaped nr mrowMany mroundOf mroundFrom mouts nm mfromHour mtoHour ns mfrom mto msort misFault mdeep mcoded mlines nl nc nF np ntr nb mbestCost nso nsi nit nsh nsf nss nrc mtraced mdealer mnumber mwhose msize misParted fnw fnsh fnsf fnrc := by
  refine MI.start (by decide +kernel) (Nat.le_of_ble_eq_true rfl) ?_
  intro p e s m below meth c A ls hC hK hP hD hS hA hl
  refine absQ (fun Q0 hQ0 => ?_)
  have hl : lv_has ls 8 [(0, .ref h0), (1, .int x1), (2, .int x2), (3, .int x3)] := hl
  refine Kan8 hC (fun hx hb hr hml hB hown hlocks hnm => ?_)
  refine lv_aload_n hx hb gX12_deal_0.1 rfl (lv_at0 hl) ?_
  refine lv_iconst (v := 0) hx hb gX12_deal_0.2.1 (by decide) ?_
  refine pf_X12_351 hC rfl hK hP hD hS 0 (ws' := [(h0, oX12 nw nk mhasKept nt mtaped nr mrowMany mroundOf mroundFrom mouts nm mfromHour mtoHour ns mfrom mto msort misFault mdeep mcoded mlines nl nc nF np ntr nb mbestCost nso nsi nit nsh nsf nss nrc 0 mdealer mnumber mwhose msize misParted), (nw, iA G 1662 fnw), (nsh, iA G 4 fnsh), (nsf, iA G 4 fnsf), (nrc, iA G 30 fnrc)]) rfl (Nat.le_of_ble_eq_true rfl) rfl rfl rfl gX12_deal_0.2.2.1 (fun H locs hP hD hS => ?_)
  refine lv_iload_n hx hb gX12_deal_0.2.2.2.1 rfl (lv_at1 hl) ?_
  refine pS hC hK hl (m_isFour l G x1) si_X12_336 rfl rfl (Nat.le_of_ble_eq_true rfl) rm_60_2_1 ⟨by first | exact Nat.le_of_ble_eq_true rfl | exact Nat.zero_le _, by first | exact Nat.le_of_ble_eq_true rfl | exact Nat.zero_le _⟩ gX12_deal_0.2.2.2.2.1 (Kors (Keqa fun a6205 => ?_) (Keqa fun a6205 => ?_))
  · refine lv_if_eq (tgt := 19) hx hb gX12_deal_0.2.2.2.2.2.1 (by decide) (fun c9 => absurd c9 (by decide)) (fun _ => ?_)
    refine lv_iload_n hx hb gX12_deal_0.2.2.2.2.2.2.1 rfl (lv_at2 hl) ?_
    refine pS hC hK hl (m_isFour l G x2) si_X12_336 rfl rfl (Nat.le_of_ble_eq_true rfl) rm_60_2_1 ⟨by first | exact Nat.le_of_ble_eq_true rfl | exact Nat.zero_le _, by first | exact Nat.le_of_ble_eq_true rfl | exact Nat.zero_le _⟩ gX12_deal_0.2.2.2.2.2.2.2.1 (Kors (Keqa fun a6207 => ?_) (Keqa fun a6207 => ?_))
    · refine lv_if_ne (tgt := 23) hx hb gX12_deal_0.2.2.2.2.2.2.2.2.1 (by decide) (fun _ => ?_) (fun c9 => absurd c9 (by decide))
      obtain ⟨jt, hjt, rfl⟩ := Wi_nat (N := 3) (by decide) a6205
      refine lv_aload_n hx hb gX12_deal_1.2.1 rfl (lv_at0 hl) ?_
      refine lv_iload_n hx hb gX12_deal_1.2.2.1 rfl (lv_at1 hl) ?_
      refine pV hC hK hl hP hD (m_kindOn l G h0 jt nw nk mhasKept nt mtaped nr mrowMany mroundOf mroundFrom mouts nm mfromHour mtoHour ns mfrom mto msort misFault mdeep mcoded mlines nl nc nF np ntr nb mbestCost nso nsi nit nsh nsf nss nrc 0 mdealer mnumber mwhose msize misParted fnw fnsh fnsf (by omega) (hN)) si_X12_345 [0, 1, 2, 3] sm_0_1_2_3 fm_0_1_2_3 nd_0_1_2_3 rfl rfl rfl rfl rfl (Nat.le_of_ble_eq_true rfl) rm_60_3_4 ⟨by first | exact Nat.le_of_ble_eq_true rfl | exact Nat.zero_le _, by first | exact Nat.le_of_ble_eq_true rfl | exact Nat.zero_le _⟩ gX12_deal_1.2.2.2.1 (Kors (Keqr ?_) (Kors (Keqa fun a6209 => ?_) (Kors (Keqa fun a6209 => ?_) (Kors (Keqa fun a6209 => ?_) (Kors (Keqa fun a6209 => ?_) (Kors (Keqa fun a6209 => ?_) (Keqa fun a6209 => ?_)))))))
      · refine lv_istore (lv' := [(4, .int (-1)), (0, .ref h0), (1, .int (nI jt)), (2, .int x2), (3, .int x3)]) hx hb gX12_deal_1.2.2.2.2.1 hl (by decide) rfl (fun ls hl => ?_)
        refine lv_iload hx hb gX12_deal_1.2.2.2.2.2.1 (lv_at0 hl) ?_
        refine lv_if_ge (tgt := 37) hx hb gX12_deal_1.2.2.2.2.2.2.1 (by decide) (fun c9 => absurd c9 (by decide)) (fun _ => ?_)
        refine lv_iconst (v := 0) hx hb gX12_deal_1.2.2.2.2.2.2.2.1 (by decide) ?_
        refine toQ hQ0 ?_
        exact RI (v := 0) hC hP hD hS [0, 1, 2, 3, 4] (0, mdealer, mnumber, mwhose, msize, misParted, fnrc) rfl rfl (by decide) (⟨trivial, by omega⟩) rfl gX12_deal_1.2.2.2.2.2.2.2.2.1
      · refine lv_istore (lv' := [(4, .int 1), (0, .ref h0), (1, .int (nI jt)), (2, .int x2), (3, .int x3)]) hx hb gX12_deal_1.2.2.2.2.1 hl (by decide) rfl (fun ls hl => ?_)
        refine lv_iload hx hb gX12_deal_1.2.2.2.2.2.1 (lv_at0 hl) ?_
        refine lv_if_ge (tgt := 37) hx hb gX12_deal_1.2.2.2.2.2.2.1 (by decide) (fun _ => ?_) (fun c9 => absurd (by decide) c9)
        refine lv_aload_n hx hb gX12_deal_1.2.2.2.2.2.2.2.2.2 rfl (lv_at1 hl) ?_
        refine lv_iload hx hb gX12_deal_2.1 (lv_at0 hl) ?_
        refine pf_X12_354 hC rfl hK hP hD hS 0 (ws' := [(h0, oX12 nw nk mhasKept nt mtaped nr mrowMany mroundOf mroundFrom mouts nm mfromHour mtoHour ns mfrom mto msort misFault mdeep mcoded mlines nl nc nF np ntr nb mbestCost nso nsi nit nsh nsf nss nrc 0 1 mnumber mwhose msize misParted), (nw, iA G 1662 fnw), (nsh, iA G 4 fnsh), (nsf, iA G 4 fnsf), (nrc, iA G 30 fnrc)]) rfl (Nat.le_of_ble_eq_true rfl) rfl rfl rfl gX12_deal_2.2.1 (fun H locs hP hD hS => ?_)
        refine lv_aload_n hx hb gX12_deal_2.2.2.1 rfl (lv_at1 hl) ?_
        refine lv_aload_n hx hb gX12_deal_2.2.2.2.1 rfl (lv_at1 hl) ?_
        refine gf_X12_75 hC rfl hK hP 0 rfl rfl gX12_deal_2.2.2.2.2.1 ?_
        refine lv_iload_n hx hb gX12_deal_2.2.2.2.2.2.1 rfl (lv_at2 hl) ?_
        refine aldN hC hK hP 3 rfl (k := jt) (by omega) (Nat.le_of_ble_eq_true rfl) (v := fnsf jt) rfl gX12_deal_2.2.2.2.2.2.2.1 ?_
        refine lv_topi (fun x6210 ex6210 => ?_)
        obtain ⟨hko9, jno, hjno, ejno⟩ := a6209
        refine eqi (x1 := nI jno) (ex6210.trans ejno) ?_
        refine pf_X12_378 hC rfl hK hP hD hS 0 (ws' := [(h0, oX12 nw nk mhasKept nt mtaped nr mrowMany mroundOf mroundFrom mouts nm mfromHour mtoHour ns mfrom mto msort misFault mdeep mcoded mlines nl nc nF np ntr nb mbestCost nso nsi nit nsh nsf nss nrc 0 1 (nI jno) mwhose msize misParted), (nw, iA G 1662 fnw), (nsh, iA G 4 fnsh), (nsf, iA G 4 fnsf), (nrc, iA G 30 fnrc)]) rfl (Nat.le_of_ble_eq_true rfl) rfl rfl rfl gX12_deal_2.2.2.2.2.2.2.2.1 (fun H locs hP hD hS => ?_)
        refine lv_aload_n hx hb gX12_deal_2.2.2.2.2.2.2.2.2.1 rfl (lv_at1 hl) ?_
        refine gf_X12_72 hC rfl hK hP 0 rfl rfl gX12_deal_2.2.2.2.2.2.2.2.2.2 ?_
        refine lv_iload_n hx hb gX12_deal_3.1 rfl (lv_at2 hl) ?_
        refine aldN hC hK hP 2 rfl (k := jt) (by omega) (Nat.le_of_ble_eq_true rfl) (v := fnsh jt) rfl gX12_deal_3.2.1 ?_
        refine lv_topi (fun x6211 ex6211 => ?_)
        refine lv_iconst (v := 1) hx hb gX12_deal_3.2.2.1 (by decide) ?_
        refine lv_icmp_ne (tgt := 67) hx hb gX12_deal_3.2.2.2.1 (by decide) (fun c9 => absurd (ex6211.trans hko9) c9) (fun _ => ?_)
        refine lv_iconst (v := 1) hx hb gX12_deal_3.2.2.2.2.1 (by decide) ?_
        refine lv_goto (tgt := 68) hx hb gX12_deal_3.2.2.2.2.2.1 (by decide) ?_
        refine lv_istore (lv' := [(5, .int 1), (4, .int 1), (0, .ref h0), (1, .int (nI jt)), (2, .int x2), (3, .int x3)]) hx hb gX12_deal_3.2.2.2.2.2.2.2.1 hl (by decide) rfl (fun ls hl => ?_)
        refine lv_aload_n hx hb gX12_deal_3.2.2.2.2.2.2.2.2.1 rfl (lv_at2 hl) ?_
        refine gf_X12_72 hC rfl hK hP 0 rfl rfl gX12_deal_3.2.2.2.2.2.2.2.2.2 ?_
        refine lv_iload_n hx hb gX12_deal_4.1 rfl (lv_at3 hl) ?_
        refine aldN hC hK hP 2 rfl (k := jt) (by omega) (Nat.le_of_ble_eq_true rfl) (v := fnsh jt) rfl gX12_deal_4.2.1 ?_
        refine lv_topi (fun x6212 ex6212 => ?_)
        refine lv_iconst (v := 2) hx hb gX12_deal_4.2.2.1 (by decide) ?_
        refine lv_icmp_ne (tgt := 84) hx hb gX12_deal_4.2.2.2.1 (by decide) (fun _ => ?_) (fun c9 => absurd c9 (fun h9 => absurd (hko9.symm.trans ((ex6212.symm).trans h9)) (by decide)))
        refine lv_iconst (v := 0) hx hb gX12_deal_4.2.2.2.2.2.2.1 (by decide) ?_
        refine lv_istore (lv' := [(6, .int 0), (5, .int 1), (4, .int 1), (0, .ref h0), (1, .int (nI jt)), (2, .int x2), (3, .int x3)]) hx hb gX12_deal_4.2.2.2.2.2.2.2.1 hl (by decide) rfl (fun ls hl => ?_)
        refine lv_aload_n hx hb gX12_deal_4.2.2.2.2.2.2.2.2.1 rfl (lv_at3 hl) ?_
        refine lv_iload hx hb gX12_deal_4.2.2.2.2.2.2.2.2.2 (lv_at1 hl) ?_
        refine lv_if_eq (tgt := 105) hx hb gX12_deal_5.1 (by decide) (fun c9 => absurd c9 (by decide)) (fun _ => ?_)
        refine lv_aload_n hx hb gX12_deal_5.2.1 rfl (lv_at3 hl) ?_
        refine lv_aload_n hx hb gX12_deal_5.2.2.1 rfl (lv_at3 hl) ?_
        refine gf_X12_378 hC rfl hK hP 0 rfl rfl gX12_deal_5.2.2.2.1 ?_
        refine lv_iconst (v := 0) hx hb gX12_deal_5.2.2.2.2.1 (by decide) ?_
        refine pV hC hK hl hP hD (m_paper l G h0 jno 0 nw nk mhasKept nt mtaped nr mrowMany mroundOf mroundFrom mouts nm mfromHour mtoHour ns mfrom mto msort misFault mdeep mcoded mlines nl nc nF np ntr nb mbestCost nso nsi nit nsh nsf nss nrc 0 1 (nI jno) mwhose msize misParted fnw (by omega) (by omega)) si_X12_88 [0, 1] sm_0_1 fm_0_1 nd_0_1 rfl rfl rfl rfl rfl (Nat.le_of_ble_eq_true rfl) rm_60_1_3 ⟨by first | exact Nat.le_of_ble_eq_true rfl | exact Nat.zero_le _, by first | exact Nat.le_of_ble_eq_true rfl | exact Nat.zero_le _⟩ gX12_deal_5.2.2.2.2.2.1 (Keqr ?_)
        refine lv_goto (tgt := 139) hx hb gX12_deal_5.2.2.2.2.2.2.1 (by decide) ?_
        refine pf_X12_375 hC rfl hK hP hD hS 0 (ws' := [(h0, oX12 nw nk mhasKept nt mtaped nr mrowMany mroundOf mroundFrom mouts nm mfromHour mtoHour ns mfrom mto msort misFault mdeep mcoded mlines nl nc nF np ntr nb mbestCost nso nsi nit nsh nsf nss nrc 0 1 (nI jno) (fnw (32 + 6 * jno + 0)) msize misParted), (nw, iA G 1662 fnw), (nsh, iA G 4 fnsh), (nsf, iA G 4 fnsf), (nrc, iA G 30 fnrc)]) rfl (Nat.le_of_ble_eq_true rfl) rfl rfl rfl gX12_deal_7.2.2.2.2.2.2.1 (fun H locs hP hD hS => ?_)
        refine lv_aload_n hx hb gX12_deal_7.2.2.2.2.2.2.2.1 rfl (lv_at3 hl) ?_
        refine lv_iload hx hb gX12_deal_7.2.2.2.2.2.2.2.2.1 (lv_at1 hl) ?_
        refine lv_if_eq (tgt := 160) hx hb gX12_deal_7.2.2.2.2.2.2.2.2.2 (by decide) (fun c9 => absurd c9 (by decide)) (fun _ => ?_)
        refine lv_aload_n hx hb gX12_deal_8.1 rfl (lv_at3 hl) ?_
        refine lv_aload_n hx hb gX12_deal_8.2.1 rfl (lv_at3 hl) ?_
        refine gf_X12_378 hC rfl hK hP 0 rfl rfl gX12_deal_8.2.2.1 ?_
        refine lv_iconst (v := 2) hx hb gX12_deal_8.2.2.2.1 (by decide) ?_
        refine pV hC hK hl hP hD (m_paper l G h0 jno 2 nw nk mhasKept nt mtaped nr mrowMany mroundOf mroundFrom mouts nm mfromHour mtoHour ns mfrom mto msort misFault mdeep mcoded mlines nl nc nF np ntr nb mbestCost nso nsi nit nsh nsf nss nrc 0 1 (nI jno) (fnw (32 + 6 * jno + 0)) msize misParted fnw (by omega) (by omega)) si_X12_88 [0, 1] sm_0_1 fm_0_1 nd_0_1 rfl rfl rfl rfl rfl (Nat.le_of_ble_eq_true rfl) rm_60_1_3 ⟨by first | exact Nat.le_of_ble_eq_true rfl | exact Nat.zero_le _, by first | exact Nat.le_of_ble_eq_true rfl | exact Nat.zero_le _⟩ gX12_deal_8.2.2.2.2.1 (Keqr ?_)
        refine lv_goto (tgt := 194) hx hb gX12_deal_8.2.2.2.2.2.1 (by decide) ?_
        refine pf_X12_369 hC rfl hK hP hD hS 0 (ws' := [(h0, oX12 nw nk mhasKept nt mtaped nr mrowMany mroundOf mroundFrom mouts nm mfromHour mtoHour ns mfrom mto msort misFault mdeep mcoded mlines nl nc nF np ntr nb mbestCost nso nsi nit nsh nsf nss nrc 0 1 (nI jno) (fnw (32 + 6 * jno + 0)) (fnw (32 + 6 * jno + 2)) misParted), (nw, iA G 1662 fnw), (nsh, iA G 4 fnsh), (nsf, iA G 4 fnsf), (nrc, iA G 30 fnrc)]) rfl (Nat.le_of_ble_eq_true rfl) rfl rfl rfl gX12_deal_10.2.2.2.2.2.1 (fun H locs hP hD hS => ?_)
        refine lv_aload_n hx hb gX12_deal_10.2.2.2.2.2.2.1 rfl (lv_at3 hl) ?_
        refine lv_iconst (v := 0) hx hb gX12_deal_10.2.2.2.2.2.2.2.1 (by decide) ?_
        refine pf_X12_380 hC rfl hK hP hD hS 0 (ws' := [(h0, oX12 nw nk mhasKept nt mtaped nr mrowMany mroundOf mroundFrom mouts nm mfromHour mtoHour ns mfrom mto msort misFault mdeep mcoded mlines nl nc nF np ntr nb mbestCost nso nsi nit nsh nsf nss nrc 0 1 (nI jno) (fnw (32 + 6 * jno + 0)) (fnw (32 + 6 * jno + 2)) 0), (nw, iA G 1662 fnw), (nsh, iA G 4 fnsh), (nsf, iA G 4 fnsf), (nrc, iA G 30 fnrc)]) rfl (Nat.le_of_ble_eq_true rfl) rfl (by decide +kernel) (by decide +kernel) gX12_deal_10.2.2.2.2.2.2.2.2.1 (fun H locs hP hD hS => ?_)
        obtain ⟨jdl, hjdl, rfl⟩ := Wi_nat (N := 3) (by decide) a6207
        rcases (show jdl = 0 ∨ jdl = 1 ∨ jdl = 2 ∨ jdl = 3 by omega) with rfl | rfl | rfl | rfl
        · refine lv_aload_n hx hb gX12_deal_10.2.2.2.2.2.2.2.2.2 rfl (lv_at3 hl) ?_
          refine lv_iload_n hx hb gX12_deal_11.1 rfl (lv_at5 hl) ?_
          refine lv_iload_n hx hb gX12_deal_11.2.1 rfl (lv_at6 hl) ?_
          refine iV (wr := [(nw, iA G 1662 fnw), (nsh, iA G 4 fnsh), (nsf, iA G 4 fnsf)]) hC hK hl hP hD hS hA (m_dealt0 l G h0 x3 nw nk mhasKept nt mtaped nr mrowMany mroundOf mroundFrom mouts nm mfromHour mtoHour ns mfrom mto msort misFault mdeep mcoded mlines nl nc nF np ntr nb mbestCost nso nsi nit nsh nsf nss nrc 0 1 (nI jno) (fnw (32 + 6 * jno + 0)) (fnw (32 + 6 * jno + 2)) 0 fnrc (by omega) (by omega)) si_X12_372 [0, 4] [1, 2, 3] sm_0_4 fm_0_4 nd_0_4 sm_1_2_3 nd_1_2_3 dj_0_4__1_2_3 rfl rfl rfl rfl rfl (Nat.le_of_ble_eq_true rfl) rm_60_14_3 ⟨Nat.le_of_ble_eq_true rfl, Nat.le_of_ble_eq_true rfl⟩ gX12_deal_11.2.2.1 (fun r6217 => Ktu3 fun jr16219 ip16220 gtrc6221 => ?_)
          intro H locs hr6217 hP hD hS
          try dsimp only at hr6217
          refine Kpdr (ws := [(nw, iA G 1662 fnw), (nsh, iA G 4 fnsh), (nsf, iA G 4 fnsf), (h0, oX12 nw nk mhasKept nt mtaped nr mrowMany mroundOf mroundFrom mouts nm mfromHour mtoHour ns mfrom mto msort misFault mdeep mcoded mlines nl nc nF np ntr nb mbestCost nso nsi nit nsh nsf nss nrc (nI jr16219) 1 (nI jno) (fnw (32 + 6 * jno + 0)) (fnw (32 + 6 * jno + 2)) ip16220), (nrc, iA G 30 gtrc6221)]) hP hD (fun hP hD => ?_)
          obtain ⟨hr6217, w6222⟩ := hr6217
          refine lv_istore (lv' := [(7, .int r6217), (6, .int 0), (5, .int 1), (4, .int 1), (0, .ref h0), (1, .int (nI jt)), (2, .int 0), (3, .int x3)]) hx hb gX12_deal_11.2.2.2.1 hl (by decide) rfl (fun ls hl => ?_)
          refine lv_aload_n hx hb gX12_deal_11.2.2.2.2.1 rfl (lv_at4 hl) ?_
          refine gf_X12_380 hC rfl hK hP 3 rfl rfl gX12_deal_11.2.2.2.2.2.1 ?_
          refine lv_if_eq (tgt := 222) hx hb gX12_deal_11.2.2.2.2.2.2.1 (by decide) (fun c_214_6223 => ?_) (fun c_214_6223 => ?_)
          · refine lv_iload hx hb gX12_deal_11.2.2.2.2.2.2.2.2.2 (lv_at0 hl) ?_
            refine toQ hQ0 ?_
            exact RI (v := r6217) hC hP hD hS [3, 0, 1, 2, 4] (jr16219, 1, nI jno, fnw (32 + 6 * jno + 0), fnw (32 + 6 * jno + 2), ip16220, gtrc6221) rfl rfl (by decide) (⟨trivial, by omega⟩) rfl gX12_deal_12
          · refine lv_bipush (v := (-15)) hx hb gX12_deal_11.2.2.2.2.2.2.2.1 (by decide) ?_
            refine lv_goto (tgt := 224) hx hb gX12_deal_11.2.2.2.2.2.2.2.2.1 (by decide) ?_
            refine toQ hQ0 ?_
            exact RI (v := (-15)) hC hP hD hS [3, 0, 1, 2, 4] (jr16219, 1, nI jno, fnw (32 + 6 * jno + 0), fnw (32 + 6 * jno + 2), ip16220, gtrc6221) rfl rfl (by decide) (⟨trivial, by omega⟩) rfl gX12_deal_12
        · refine lv_aload_n hx hb gX12_deal_10.2.2.2.2.2.2.2.2.2 rfl (lv_at3 hl) ?_
          refine lv_iload_n hx hb gX12_deal_11.1 rfl (lv_at5 hl) ?_
          refine lv_iload_n hx hb gX12_deal_11.2.1 rfl (lv_at6 hl) ?_
          refine iV (wr := [(nw, iA G 1662 fnw), (nsh, iA G 4 fnsh), (nsf, iA G 4 fnsf)]) hC hK hl hP hD hS hA (m_dealt1 l G h0 x3 nw nk mhasKept nt mtaped nr mrowMany mroundOf mroundFrom mouts nm mfromHour mtoHour ns mfrom mto msort misFault mdeep mcoded mlines nl nc nF np ntr nb mbestCost nso nsi nit nsh nsf nss nrc 0 1 (nI jno) (fnw (32 + 6 * jno + 0)) (fnw (32 + 6 * jno + 2)) 0 fnrc (by omega) (by omega)) si_X12_372 [0, 4] [1, 2, 3] sm_0_4 fm_0_4 nd_0_4 sm_1_2_3 nd_1_2_3 dj_0_4__1_2_3 rfl rfl rfl rfl rfl (Nat.le_of_ble_eq_true rfl) rm_60_26_3 ⟨Nat.le_of_ble_eq_true rfl, Nat.le_of_ble_eq_true rfl⟩ gX12_deal_11.2.2.1 (fun r6224 => Ktu3 fun jr16226 ip16227 gtrc6228 => ?_)
          intro H locs hr6224 hP hD hS
          try dsimp only at hr6224
          refine Kpdr (ws := [(nw, iA G 1662 fnw), (nsh, iA G 4 fnsh), (nsf, iA G 4 fnsf), (h0, oX12 nw nk mhasKept nt mtaped nr mrowMany mroundOf mroundFrom mouts nm mfromHour mtoHour ns mfrom mto msort misFault mdeep mcoded mlines nl nc nF np ntr nb mbestCost nso nsi nit nsh nsf nss nrc (nI jr16226) 1 (nI jno) (fnw (32 + 6 * jno + 0)) (fnw (32 + 6 * jno + 2)) ip16227), (nrc, iA G 30 gtrc6228)]) hP hD (fun hP hD => ?_)
          obtain ⟨hr6224, w6229⟩ := hr6224
          refine lv_istore (lv' := [(7, .int r6224), (6, .int 0), (5, .int 1), (4, .int 1), (0, .ref h0), (1, .int (nI jt)), (2, .int 1), (3, .int x3)]) hx hb gX12_deal_11.2.2.2.1 hl (by decide) rfl (fun ls hl => ?_)
          refine lv_aload_n hx hb gX12_deal_11.2.2.2.2.1 rfl (lv_at4 hl) ?_
          refine gf_X12_380 hC rfl hK hP 3 rfl rfl gX12_deal_11.2.2.2.2.2.1 ?_
          refine lv_if_eq (tgt := 222) hx hb gX12_deal_11.2.2.2.2.2.2.1 (by decide) (fun c_214_6230 => ?_) (fun c_214_6230 => ?_)
          · refine lv_iload hx hb gX12_deal_11.2.2.2.2.2.2.2.2.2 (lv_at0 hl) ?_
            refine toQ hQ0 ?_
            exact RI (v := r6224) hC hP hD hS [3, 0, 1, 2, 4] (jr16226, 1, nI jno, fnw (32 + 6 * jno + 0), fnw (32 + 6 * jno + 2), ip16227, gtrc6228) rfl rfl (by decide) (⟨trivial, by omega⟩) rfl gX12_deal_12
          · refine lv_bipush (v := (-15)) hx hb gX12_deal_11.2.2.2.2.2.2.2.1 (by decide) ?_
            refine lv_goto (tgt := 224) hx hb gX12_deal_11.2.2.2.2.2.2.2.2.1 (by decide) ?_
            refine toQ hQ0 ?_
            exact RI (v := (-15)) hC hP hD hS [3, 0, 1, 2, 4] (jr16226, 1, nI jno, fnw (32 + 6 * jno + 0), fnw (32 + 6 * jno + 2), ip16227, gtrc6228) rfl rfl (by decide) (⟨trivial, by omega⟩) rfl gX12_deal_12
        · refine lv_aload_n hx hb gX12_deal_10.2.2.2.2.2.2.2.2.2 rfl (lv_at3 hl) ?_
          refine lv_iload_n hx hb gX12_deal_11.1 rfl (lv_at5 hl) ?_
          refine lv_iload_n hx hb gX12_deal_11.2.1 rfl (lv_at6 hl) ?_
          refine iV (wr := [(nw, iA G 1662 fnw), (nsh, iA G 4 fnsh), (nsf, iA G 4 fnsf)]) hC hK hl hP hD hS hA (m_dealt2 l G h0 x3 nw nk mhasKept nt mtaped nr mrowMany mroundOf mroundFrom mouts nm mfromHour mtoHour ns mfrom mto msort misFault mdeep mcoded mlines nl nc nF np ntr nb mbestCost nso nsi nit nsh nsf nss nrc 0 1 (nI jno) (fnw (32 + 6 * jno + 0)) (fnw (32 + 6 * jno + 2)) 0 fnrc (by omega) (by omega)) si_X12_372 [0, 4] [1, 2, 3] sm_0_4 fm_0_4 nd_0_4 sm_1_2_3 nd_1_2_3 dj_0_4__1_2_3 rfl rfl rfl rfl rfl (Nat.le_of_ble_eq_true rfl) rm_60_38_3 ⟨Nat.le_of_ble_eq_true rfl, Nat.le_of_ble_eq_true rfl⟩ gX12_deal_11.2.2.1 (fun r6231 => Ktu3 fun jr16233 ip16234 gtrc6235 => ?_)
          intro H locs hr6231 hP hD hS
          try dsimp only at hr6231
          refine Kpdr (ws := [(nw, iA G 1662 fnw), (nsh, iA G 4 fnsh), (nsf, iA G 4 fnsf), (h0, oX12 nw nk mhasKept nt mtaped nr mrowMany mroundOf mroundFrom mouts nm mfromHour mtoHour ns mfrom mto msort misFault mdeep mcoded mlines nl nc nF np ntr nb mbestCost nso nsi nit nsh nsf nss nrc (nI jr16233) 1 (nI jno) (fnw (32 + 6 * jno + 0)) (fnw (32 + 6 * jno + 2)) ip16234), (nrc, iA G 30 gtrc6235)]) hP hD (fun hP hD => ?_)
          obtain ⟨hr6231, w6236⟩ := hr6231
          refine lv_istore (lv' := [(7, .int r6231), (6, .int 0), (5, .int 1), (4, .int 1), (0, .ref h0), (1, .int (nI jt)), (2, .int 2), (3, .int x3)]) hx hb gX12_deal_11.2.2.2.1 hl (by decide) rfl (fun ls hl => ?_)
          refine lv_aload_n hx hb gX12_deal_11.2.2.2.2.1 rfl (lv_at4 hl) ?_
          refine gf_X12_380 hC rfl hK hP 3 rfl rfl gX12_deal_11.2.2.2.2.2.1 ?_
          refine lv_if_eq (tgt := 222) hx hb gX12_deal_11.2.2.2.2.2.2.1 (by decide) (fun c_214_6237 => ?_) (fun c_214_6237 => ?_)
          · refine lv_iload hx hb gX12_deal_11.2.2.2.2.2.2.2.2.2 (lv_at0 hl) ?_
            refine toQ hQ0 ?_
            exact RI (v := r6231) hC hP hD hS [3, 0, 1, 2, 4] (jr16233, 1, nI jno, fnw (32 + 6 * jno + 0), fnw (32 + 6 * jno + 2), ip16234, gtrc6235) rfl rfl (by decide) (⟨trivial, by omega⟩) rfl gX12_deal_12
          · refine lv_bipush (v := (-15)) hx hb gX12_deal_11.2.2.2.2.2.2.2.1 (by decide) ?_
            refine lv_goto (tgt := 224) hx hb gX12_deal_11.2.2.2.2.2.2.2.2.1 (by decide) ?_
            refine toQ hQ0 ?_
            exact RI (v := (-15)) hC hP hD hS [3, 0, 1, 2, 4] (jr16233, 1, nI jno, fnw (32 + 6 * jno + 0), fnw (32 + 6 * jno + 2), ip16234, gtrc6235) rfl rfl (by decide) (⟨trivial, by omega⟩) rfl gX12_deal_12
        · refine lv_aload_n hx hb gX12_deal_10.2.2.2.2.2.2.2.2.2 rfl (lv_at3 hl) ?_
          refine lv_iload_n hx hb gX12_deal_11.1 rfl (lv_at5 hl) ?_
          refine lv_iload_n hx hb gX12_deal_11.2.1 rfl (lv_at6 hl) ?_
          refine iV (wr := [(nw, iA G 1662 fnw), (nsh, iA G 4 fnsh), (nsf, iA G 4 fnsf)]) hC hK hl hP hD hS hA (m_dealt3 l G h0 x3 nw nk mhasKept nt mtaped nr mrowMany mroundOf mroundFrom mouts nm mfromHour mtoHour ns mfrom mto msort misFault mdeep mcoded mlines nl nc nF np ntr nb mbestCost nso nsi nit nsh nsf nss nrc 0 1 (nI jno) (fnw (32 + 6 * jno + 0)) (fnw (32 + 6 * jno + 2)) 0 fnrc (by omega) (by omega)) si_X12_372 [0, 4] [1, 2, 3] sm_0_4 fm_0_4 nd_0_4 sm_1_2_3 nd_1_2_3 dj_0_4__1_2_3 rfl rfl rfl rfl rfl (Nat.le_of_ble_eq_true rfl) rm_60_50_3 ⟨Nat.le_of_ble_eq_true rfl, Nat.le_of_ble_eq_true rfl⟩ gX12_deal_11.2.2.1 (fun r6238 => Ktu3 fun jr16240 ip16241 gtrc6242 => ?_)
          intro H locs hr6238 hP hD hS
          try dsimp only at hr6238
          refine Kpdr (ws := [(nw, iA G 1662 fnw), (nsh, iA G 4 fnsh), (nsf, iA G 4 fnsf), (h0, oX12 nw nk mhasKept nt mtaped nr mrowMany mroundOf mroundFrom mouts nm mfromHour mtoHour ns mfrom mto msort misFault mdeep mcoded mlines nl nc nF np ntr nb mbestCost nso nsi nit nsh nsf nss nrc (nI jr16240) 1 (nI jno) (fnw (32 + 6 * jno + 0)) (fnw (32 + 6 * jno + 2)) ip16241), (nrc, iA G 30 gtrc6242)]) hP hD (fun hP hD => ?_)
          obtain ⟨hr6238, w6243⟩ := hr6238
          refine lv_istore (lv' := [(7, .int r6238), (6, .int 0), (5, .int 1), (4, .int 1), (0, .ref h0), (1, .int (nI jt)), (2, .int 3), (3, .int x3)]) hx hb gX12_deal_11.2.2.2.1 hl (by decide) rfl (fun ls hl => ?_)
          refine lv_aload_n hx hb gX12_deal_11.2.2.2.2.1 rfl (lv_at4 hl) ?_
          refine gf_X12_380 hC rfl hK hP 3 rfl rfl gX12_deal_11.2.2.2.2.2.1 ?_
          refine lv_if_eq (tgt := 222) hx hb gX12_deal_11.2.2.2.2.2.2.1 (by decide) (fun c_214_6244 => ?_) (fun c_214_6244 => ?_)
          · refine lv_iload hx hb gX12_deal_11.2.2.2.2.2.2.2.2.2 (lv_at0 hl) ?_
            refine toQ hQ0 ?_
            exact RI (v := r6238) hC hP hD hS [3, 0, 1, 2, 4] (jr16240, 1, nI jno, fnw (32 + 6 * jno + 0), fnw (32 + 6 * jno + 2), ip16241, gtrc6242) rfl rfl (by decide) (⟨trivial, by omega⟩) rfl gX12_deal_12
          · refine lv_bipush (v := (-15)) hx hb gX12_deal_11.2.2.2.2.2.2.2.1 (by decide) ?_
            refine lv_goto (tgt := 224) hx hb gX12_deal_11.2.2.2.2.2.2.2.2.1 (by decide) ?_
            refine toQ hQ0 ?_
            exact RI (v := (-15)) hC hP hD hS [3, 0, 1, 2, 4] (jr16240, 1, nI jno, fnw (32 + 6 * jno + 0), fnw (32 + 6 * jno + 2), ip16241, gtrc6242) rfl rfl (by decide) (⟨trivial, by omega⟩) rfl gX12_deal_12
      · refine lv_istore (lv' := [(4, .int 2), (0, .ref h0), (1, .int (nI jt)), (2, .int x2), (3, .int x3)]) hx hb gX12_deal_1.2.2.2.2.1 hl (by decide) rfl (fun ls hl => ?_)
        refine lv_iload hx hb gX12_deal_1.2.2.2.2.2.1 (lv_at0 hl) ?_
        refine lv_if_ge (tgt := 37) hx hb gX12_deal_1.2.2.2.2.2.2.1 (by decide) (fun _ => ?_) (fun c9 => absurd (by decide) c9)
        refine lv_aload_n hx hb gX12_deal_1.2.2.2.2.2.2.2.2.2 rfl (lv_at1 hl) ?_
        refine lv_iload hx hb gX12_deal_2.1 (lv_at0 hl) ?_
        refine pf_X12_354 hC rfl hK hP hD hS 0 (ws' := [(h0, oX12 nw nk mhasKept nt mtaped nr mrowMany mroundOf mroundFrom mouts nm mfromHour mtoHour ns mfrom mto msort misFault mdeep mcoded mlines nl nc nF np ntr nb mbestCost nso nsi nit nsh nsf nss nrc 0 2 mnumber mwhose msize misParted), (nw, iA G 1662 fnw), (nsh, iA G 4 fnsh), (nsf, iA G 4 fnsf), (nrc, iA G 30 fnrc)]) rfl (Nat.le_of_ble_eq_true rfl) rfl rfl rfl gX12_deal_2.2.1 (fun H locs hP hD hS => ?_)
        refine lv_aload_n hx hb gX12_deal_2.2.2.1 rfl (lv_at1 hl) ?_
        refine lv_aload_n hx hb gX12_deal_2.2.2.2.1 rfl (lv_at1 hl) ?_
        refine gf_X12_75 hC rfl hK hP 0 rfl rfl gX12_deal_2.2.2.2.2.1 ?_
        refine lv_iload_n hx hb gX12_deal_2.2.2.2.2.2.1 rfl (lv_at2 hl) ?_
        refine aldN hC hK hP 3 rfl (k := jt) (by omega) (Nat.le_of_ble_eq_true rfl) (v := fnsf jt) rfl gX12_deal_2.2.2.2.2.2.2.1 ?_
        refine lv_topi (fun x6245 ex6245 => ?_)
        obtain ⟨hko9, jno, hjno, ejno⟩ := a6209
        refine eqi (x1 := nI jno) (ex6245.trans ejno) ?_
        refine pf_X12_378 hC rfl hK hP hD hS 0 (ws' := [(h0, oX12 nw nk mhasKept nt mtaped nr mrowMany mroundOf mroundFrom mouts nm mfromHour mtoHour ns mfrom mto msort misFault mdeep mcoded mlines nl nc nF np ntr nb mbestCost nso nsi nit nsh nsf nss nrc 0 2 (nI jno) mwhose msize misParted), (nw, iA G 1662 fnw), (nsh, iA G 4 fnsh), (nsf, iA G 4 fnsf), (nrc, iA G 30 fnrc)]) rfl (Nat.le_of_ble_eq_true rfl) rfl rfl rfl gX12_deal_2.2.2.2.2.2.2.2.1 (fun H locs hP hD hS => ?_)
        refine lv_aload_n hx hb gX12_deal_2.2.2.2.2.2.2.2.2.1 rfl (lv_at1 hl) ?_
        refine gf_X12_72 hC rfl hK hP 0 rfl rfl gX12_deal_2.2.2.2.2.2.2.2.2.2 ?_
        refine lv_iload_n hx hb gX12_deal_3.1 rfl (lv_at2 hl) ?_
        refine aldN hC hK hP 2 rfl (k := jt) (by omega) (Nat.le_of_ble_eq_true rfl) (v := fnsh jt) rfl gX12_deal_3.2.1 ?_
        refine lv_topi (fun x6246 ex6246 => ?_)
        refine lv_iconst (v := 1) hx hb gX12_deal_3.2.2.1 (by decide) ?_
        refine lv_icmp_ne (tgt := 67) hx hb gX12_deal_3.2.2.2.1 (by decide) (fun c9 => absurd (ex6246.trans hko9) c9) (fun _ => ?_)
        refine lv_iconst (v := 1) hx hb gX12_deal_3.2.2.2.2.1 (by decide) ?_
        refine lv_goto (tgt := 68) hx hb gX12_deal_3.2.2.2.2.2.1 (by decide) ?_
        refine lv_istore (lv' := [(5, .int 1), (4, .int 2), (0, .ref h0), (1, .int (nI jt)), (2, .int x2), (3, .int x3)]) hx hb gX12_deal_3.2.2.2.2.2.2.2.1 hl (by decide) rfl (fun ls hl => ?_)
        refine lv_aload_n hx hb gX12_deal_3.2.2.2.2.2.2.2.2.1 rfl (lv_at2 hl) ?_
        refine gf_X12_72 hC rfl hK hP 0 rfl rfl gX12_deal_3.2.2.2.2.2.2.2.2.2 ?_
        refine lv_iload_n hx hb gX12_deal_4.1 rfl (lv_at3 hl) ?_
        refine aldN hC hK hP 2 rfl (k := jt) (by omega) (Nat.le_of_ble_eq_true rfl) (v := fnsh jt) rfl gX12_deal_4.2.1 ?_
        refine lv_topi (fun x6247 ex6247 => ?_)
        refine lv_iconst (v := 2) hx hb gX12_deal_4.2.2.1 (by decide) ?_
        refine lv_icmp_ne (tgt := 84) hx hb gX12_deal_4.2.2.2.1 (by decide) (fun _ => ?_) (fun c9 => absurd c9 (fun h9 => absurd (hko9.symm.trans ((ex6247.symm).trans h9)) (by decide)))
        refine lv_iconst (v := 0) hx hb gX12_deal_4.2.2.2.2.2.2.1 (by decide) ?_
        refine lv_istore (lv' := [(6, .int 0), (5, .int 1), (4, .int 2), (0, .ref h0), (1, .int (nI jt)), (2, .int x2), (3, .int x3)]) hx hb gX12_deal_4.2.2.2.2.2.2.2.1 hl (by decide) rfl (fun ls hl => ?_)
        refine lv_aload_n hx hb gX12_deal_4.2.2.2.2.2.2.2.2.1 rfl (lv_at3 hl) ?_
        refine lv_iload hx hb gX12_deal_4.2.2.2.2.2.2.2.2.2 (lv_at1 hl) ?_
        refine lv_if_eq (tgt := 105) hx hb gX12_deal_5.1 (by decide) (fun c9 => absurd c9 (by decide)) (fun _ => ?_)
        refine lv_aload_n hx hb gX12_deal_5.2.1 rfl (lv_at3 hl) ?_
        refine lv_aload_n hx hb gX12_deal_5.2.2.1 rfl (lv_at3 hl) ?_
        refine gf_X12_378 hC rfl hK hP 0 rfl rfl gX12_deal_5.2.2.2.1 ?_
        refine lv_iconst (v := 0) hx hb gX12_deal_5.2.2.2.2.1 (by decide) ?_
        refine pV hC hK hl hP hD (m_paper l G h0 jno 0 nw nk mhasKept nt mtaped nr mrowMany mroundOf mroundFrom mouts nm mfromHour mtoHour ns mfrom mto msort misFault mdeep mcoded mlines nl nc nF np ntr nb mbestCost nso nsi nit nsh nsf nss nrc 0 2 (nI jno) mwhose msize misParted fnw (by omega) (by omega)) si_X12_88 [0, 1] sm_0_1 fm_0_1 nd_0_1 rfl rfl rfl rfl rfl (Nat.le_of_ble_eq_true rfl) rm_60_1_3 ⟨by first | exact Nat.le_of_ble_eq_true rfl | exact Nat.zero_le _, by first | exact Nat.le_of_ble_eq_true rfl | exact Nat.zero_le _⟩ gX12_deal_5.2.2.2.2.2.1 (Keqr ?_)
        refine lv_goto (tgt := 139) hx hb gX12_deal_5.2.2.2.2.2.2.1 (by decide) ?_
        refine pf_X12_375 hC rfl hK hP hD hS 0 (ws' := [(h0, oX12 nw nk mhasKept nt mtaped nr mrowMany mroundOf mroundFrom mouts nm mfromHour mtoHour ns mfrom mto msort misFault mdeep mcoded mlines nl nc nF np ntr nb mbestCost nso nsi nit nsh nsf nss nrc 0 2 (nI jno) (fnw (32 + 6 * jno + 0)) msize misParted), (nw, iA G 1662 fnw), (nsh, iA G 4 fnsh), (nsf, iA G 4 fnsf), (nrc, iA G 30 fnrc)]) rfl (Nat.le_of_ble_eq_true rfl) rfl rfl rfl gX12_deal_7.2.2.2.2.2.2.1 (fun H locs hP hD hS => ?_)
        refine lv_aload_n hx hb gX12_deal_7.2.2.2.2.2.2.2.1 rfl (lv_at3 hl) ?_
        refine lv_iload hx hb gX12_deal_7.2.2.2.2.2.2.2.2.1 (lv_at1 hl) ?_
        refine lv_if_eq (tgt := 160) hx hb gX12_deal_7.2.2.2.2.2.2.2.2.2 (by decide) (fun c9 => absurd c9 (by decide)) (fun _ => ?_)
        refine lv_aload_n hx hb gX12_deal_8.1 rfl (lv_at3 hl) ?_
        refine lv_aload_n hx hb gX12_deal_8.2.1 rfl (lv_at3 hl) ?_
        refine gf_X12_378 hC rfl hK hP 0 rfl rfl gX12_deal_8.2.2.1 ?_
        refine lv_iconst (v := 2) hx hb gX12_deal_8.2.2.2.1 (by decide) ?_
        refine pV hC hK hl hP hD (m_paper l G h0 jno 2 nw nk mhasKept nt mtaped nr mrowMany mroundOf mroundFrom mouts nm mfromHour mtoHour ns mfrom mto msort misFault mdeep mcoded mlines nl nc nF np ntr nb mbestCost nso nsi nit nsh nsf nss nrc 0 2 (nI jno) (fnw (32 + 6 * jno + 0)) msize misParted fnw (by omega) (by omega)) si_X12_88 [0, 1] sm_0_1 fm_0_1 nd_0_1 rfl rfl rfl rfl rfl (Nat.le_of_ble_eq_true rfl) rm_60_1_3 ⟨by first | exact Nat.le_of_ble_eq_true rfl | exact Nat.zero_le _, by first | exact Nat.le_of_ble_eq_true rfl | exact Nat.zero_le _⟩ gX12_deal_8.2.2.2.2.1 (Keqr ?_)
        refine lv_goto (tgt := 194) hx hb gX12_deal_8.2.2.2.2.2.1 (by decide) ?_
        refine pf_X12_369 hC rfl hK hP hD hS 0 (ws' := [(h0, oX12 nw nk mhasKept nt mtaped nr mrowMany mroundOf mroundFrom mouts nm mfromHour mtoHour ns mfrom mto msort misFault mdeep mcoded mlines nl nc nF np ntr nb mbestCost nso nsi nit nsh nsf nss nrc 0 2 (nI jno) (fnw (32 + 6 * jno + 0)) (fnw (32 + 6 * jno + 2)) misParted), (nw, iA G 1662 fnw), (nsh, iA G 4 fnsh), (nsf, iA G 4 fnsf), (nrc, iA G 30 fnrc)]) rfl (Nat.le_of_ble_eq_true rfl) rfl rfl rfl gX12_deal_10.2.2.2.2.2.1 (fun H locs hP hD hS => ?_)
        refine lv_aload_n hx hb gX12_deal_10.2.2.2.2.2.2.1 rfl (lv_at3 hl) ?_
        refine lv_iconst (v := 0) hx hb gX12_deal_10.2.2.2.2.2.2.2.1 (by decide) ?_
        refine pf_X12_380 hC rfl hK hP hD hS 0 (ws' := [(h0, oX12 nw nk mhasKept nt mtaped nr mrowMany mroundOf mroundFrom mouts nm mfromHour mtoHour ns mfrom mto msort misFault mdeep mcoded mlines nl nc nF np ntr nb mbestCost nso nsi nit nsh nsf nss nrc 0 2 (nI jno) (fnw (32 + 6 * jno + 0)) (fnw (32 + 6 * jno + 2)) 0), (nw, iA G 1662 fnw), (nsh, iA G 4 fnsh), (nsf, iA G 4 fnsf), (nrc, iA G 30 fnrc)]) rfl (Nat.le_of_ble_eq_true rfl) rfl (by decide +kernel) (by decide +kernel) gX12_deal_10.2.2.2.2.2.2.2.2.1 (fun H locs hP hD hS => ?_)
        obtain ⟨jdl, hjdl, rfl⟩ := Wi_nat (N := 3) (by decide) a6207
        rcases (show jdl = 0 ∨ jdl = 1 ∨ jdl = 2 ∨ jdl = 3 by omega) with rfl | rfl | rfl | rfl
        · refine lv_aload_n hx hb gX12_deal_10.2.2.2.2.2.2.2.2.2 rfl (lv_at3 hl) ?_
          refine lv_iload_n hx hb gX12_deal_11.1 rfl (lv_at5 hl) ?_
          refine lv_iload_n hx hb gX12_deal_11.2.1 rfl (lv_at6 hl) ?_
          refine iV (wr := [(nw, iA G 1662 fnw), (nsh, iA G 4 fnsh), (nsf, iA G 4 fnsf)]) hC hK hl hP hD hS hA (m_dealt0 l G h0 x3 nw nk mhasKept nt mtaped nr mrowMany mroundOf mroundFrom mouts nm mfromHour mtoHour ns mfrom mto msort misFault mdeep mcoded mlines nl nc nF np ntr nb mbestCost nso nsi nit nsh nsf nss nrc 0 2 (nI jno) (fnw (32 + 6 * jno + 0)) (fnw (32 + 6 * jno + 2)) 0 fnrc (by omega) (by omega)) si_X12_372 [0, 4] [1, 2, 3] sm_0_4 fm_0_4 nd_0_4 sm_1_2_3 nd_1_2_3 dj_0_4__1_2_3 rfl rfl rfl rfl rfl (Nat.le_of_ble_eq_true rfl) rm_60_14_3 ⟨Nat.le_of_ble_eq_true rfl, Nat.le_of_ble_eq_true rfl⟩ gX12_deal_11.2.2.1 (fun r6252 => Ktu3 fun jr16254 ip16255 gtrc6256 => ?_)
          intro H locs hr6252 hP hD hS
          try dsimp only at hr6252
          refine Kpdr (ws := [(nw, iA G 1662 fnw), (nsh, iA G 4 fnsh), (nsf, iA G 4 fnsf), (h0, oX12 nw nk mhasKept nt mtaped nr mrowMany mroundOf mroundFrom mouts nm mfromHour mtoHour ns mfrom mto msort misFault mdeep mcoded mlines nl nc nF np ntr nb mbestCost nso nsi nit nsh nsf nss nrc (nI jr16254) 2 (nI jno) (fnw (32 + 6 * jno + 0)) (fnw (32 + 6 * jno + 2)) ip16255), (nrc, iA G 30 gtrc6256)]) hP hD (fun hP hD => ?_)
          obtain ⟨hr6252, w6257⟩ := hr6252
          refine lv_istore (lv' := [(7, .int r6252), (6, .int 0), (5, .int 1), (4, .int 2), (0, .ref h0), (1, .int (nI jt)), (2, .int 0), (3, .int x3)]) hx hb gX12_deal_11.2.2.2.1 hl (by decide) rfl (fun ls hl => ?_)
          refine lv_aload_n hx hb gX12_deal_11.2.2.2.2.1 rfl (lv_at4 hl) ?_
          refine gf_X12_380 hC rfl hK hP 3 rfl rfl gX12_deal_11.2.2.2.2.2.1 ?_
          refine lv_if_eq (tgt := 222) hx hb gX12_deal_11.2.2.2.2.2.2.1 (by decide) (fun c_214_6258 => ?_) (fun c_214_6258 => ?_)
          · refine lv_iload hx hb gX12_deal_11.2.2.2.2.2.2.2.2.2 (lv_at0 hl) ?_
            refine toQ hQ0 ?_
            exact RI (v := r6252) hC hP hD hS [3, 0, 1, 2, 4] (jr16254, 2, nI jno, fnw (32 + 6 * jno + 0), fnw (32 + 6 * jno + 2), ip16255, gtrc6256) rfl rfl (by decide) (⟨trivial, by omega⟩) rfl gX12_deal_12
          · refine lv_bipush (v := (-15)) hx hb gX12_deal_11.2.2.2.2.2.2.2.1 (by decide) ?_
            refine lv_goto (tgt := 224) hx hb gX12_deal_11.2.2.2.2.2.2.2.2.1 (by decide) ?_
            refine toQ hQ0 ?_
            exact RI (v := (-15)) hC hP hD hS [3, 0, 1, 2, 4] (jr16254, 2, nI jno, fnw (32 + 6 * jno + 0), fnw (32 + 6 * jno + 2), ip16255, gtrc6256) rfl rfl (by decide) (⟨trivial, by omega⟩) rfl gX12_deal_12
        · refine lv_aload_n hx hb gX12_deal_10.2.2.2.2.2.2.2.2.2 rfl (lv_at3 hl) ?_
          refine lv_iload_n hx hb gX12_deal_11.1 rfl (lv_at5 hl) ?_
          refine lv_iload_n hx hb gX12_deal_11.2.1 rfl (lv_at6 hl) ?_
          refine iV (wr := [(nw, iA G 1662 fnw), (nsh, iA G 4 fnsh), (nsf, iA G 4 fnsf)]) hC hK hl hP hD hS hA (m_dealt1 l G h0 x3 nw nk mhasKept nt mtaped nr mrowMany mroundOf mroundFrom mouts nm mfromHour mtoHour ns mfrom mto msort misFault mdeep mcoded mlines nl nc nF np ntr nb mbestCost nso nsi nit nsh nsf nss nrc 0 2 (nI jno) (fnw (32 + 6 * jno + 0)) (fnw (32 + 6 * jno + 2)) 0 fnrc (by omega) (by omega)) si_X12_372 [0, 4] [1, 2, 3] sm_0_4 fm_0_4 nd_0_4 sm_1_2_3 nd_1_2_3 dj_0_4__1_2_3 rfl rfl rfl rfl rfl (Nat.le_of_ble_eq_true rfl) rm_60_26_3 ⟨Nat.le_of_ble_eq_true rfl, Nat.le_of_ble_eq_true rfl⟩ gX12_deal_11.2.2.1 (fun r6259 => Ktu3 fun jr16261 ip16262 gtrc6263 => ?_)
          intro H locs hr6259 hP hD hS
          try dsimp only at hr6259
          refine Kpdr (ws := [(nw, iA G 1662 fnw), (nsh, iA G 4 fnsh), (nsf, iA G 4 fnsf), (h0, oX12 nw nk mhasKept nt mtaped nr mrowMany mroundOf mroundFrom mouts nm mfromHour mtoHour ns mfrom mto msort misFault mdeep mcoded mlines nl nc nF np ntr nb mbestCost nso nsi nit nsh nsf nss nrc (nI jr16261) 2 (nI jno) (fnw (32 + 6 * jno + 0)) (fnw (32 + 6 * jno + 2)) ip16262), (nrc, iA G 30 gtrc6263)]) hP hD (fun hP hD => ?_)
          obtain ⟨hr6259, w6264⟩ := hr6259
          refine lv_istore (lv' := [(7, .int r6259), (6, .int 0), (5, .int 1), (4, .int 2), (0, .ref h0), (1, .int (nI jt)), (2, .int 1), (3, .int x3)]) hx hb gX12_deal_11.2.2.2.1 hl (by decide) rfl (fun ls hl => ?_)
          refine lv_aload_n hx hb gX12_deal_11.2.2.2.2.1 rfl (lv_at4 hl) ?_
          refine gf_X12_380 hC rfl hK hP 3 rfl rfl gX12_deal_11.2.2.2.2.2.1 ?_
          refine lv_if_eq (tgt := 222) hx hb gX12_deal_11.2.2.2.2.2.2.1 (by decide) (fun c_214_6265 => ?_) (fun c_214_6265 => ?_)
          · refine lv_iload hx hb gX12_deal_11.2.2.2.2.2.2.2.2.2 (lv_at0 hl) ?_
            refine toQ hQ0 ?_
            exact RI (v := r6259) hC hP hD hS [3, 0, 1, 2, 4] (jr16261, 2, nI jno, fnw (32 + 6 * jno + 0), fnw (32 + 6 * jno + 2), ip16262, gtrc6263) rfl rfl (by decide) (⟨trivial, by omega⟩) rfl gX12_deal_12
          · refine lv_bipush (v := (-15)) hx hb gX12_deal_11.2.2.2.2.2.2.2.1 (by decide) ?_
            refine lv_goto (tgt := 224) hx hb gX12_deal_11.2.2.2.2.2.2.2.2.1 (by decide) ?_
            refine toQ hQ0 ?_
            exact RI (v := (-15)) hC hP hD hS [3, 0, 1, 2, 4] (jr16261, 2, nI jno, fnw (32 + 6 * jno + 0), fnw (32 + 6 * jno + 2), ip16262, gtrc6263) rfl rfl (by decide) (⟨trivial, by omega⟩) rfl gX12_deal_12
        · refine lv_aload_n hx hb gX12_deal_10.2.2.2.2.2.2.2.2.2 rfl (lv_at3 hl) ?_
          refine lv_iload_n hx hb gX12_deal_11.1 rfl (lv_at5 hl) ?_
          refine lv_iload_n hx hb gX12_deal_11.2.1 rfl (lv_at6 hl) ?_
          refine iV (wr := [(nw, iA G 1662 fnw), (nsh, iA G 4 fnsh), (nsf, iA G 4 fnsf)]) hC hK hl hP hD hS hA (m_dealt2 l G h0 x3 nw nk mhasKept nt mtaped nr mrowMany mroundOf mroundFrom mouts nm mfromHour mtoHour ns mfrom mto msort misFault mdeep mcoded mlines nl nc nF np ntr nb mbestCost nso nsi nit nsh nsf nss nrc 0 2 (nI jno) (fnw (32 + 6 * jno + 0)) (fnw (32 + 6 * jno + 2)) 0 fnrc (by omega) (by omega)) si_X12_372 [0, 4] [1, 2, 3] sm_0_4 fm_0_4 nd_0_4 sm_1_2_3 nd_1_2_3 dj_0_4__1_2_3 rfl rfl rfl rfl rfl (Nat.le_of_ble_eq_true rfl) rm_60_38_3 ⟨Nat.le_of_ble_eq_true rfl, Nat.le_of_ble_eq_true rfl⟩ gX12_deal_11.2.2.1 (fun r6266 => Ktu3 fun jr16268 ip16269 gtrc6270 => ?_)
          intro H locs hr6266 hP hD hS
          try dsimp only at hr6266
          refine Kpdr (ws := [(nw, iA G 1662 fnw), (nsh, iA G 4 fnsh), (nsf, iA G 4 fnsf), (h0, oX12 nw nk mhasKept nt mtaped nr mrowMany mroundOf mroundFrom mouts nm mfromHour mtoHour ns mfrom mto msort misFault mdeep mcoded mlines nl nc nF np ntr nb mbestCost nso nsi nit nsh nsf nss nrc (nI jr16268) 2 (nI jno) (fnw (32 + 6 * jno + 0)) (fnw (32 + 6 * jno + 2)) ip16269), (nrc, iA G 30 gtrc6270)]) hP hD (fun hP hD => ?_)
          obtain ⟨hr6266, w6271⟩ := hr6266
          refine lv_istore (lv' := [(7, .int r6266), (6, .int 0), (5, .int 1), (4, .int 2), (0, .ref h0), (1, .int (nI jt)), (2, .int 2), (3, .int x3)]) hx hb gX12_deal_11.2.2.2.1 hl (by decide) rfl (fun ls hl => ?_)
          refine lv_aload_n hx hb gX12_deal_11.2.2.2.2.1 rfl (lv_at4 hl) ?_
          refine gf_X12_380 hC rfl hK hP 3 rfl rfl gX12_deal_11.2.2.2.2.2.1 ?_
          refine lv_if_eq (tgt := 222) hx hb gX12_deal_11.2.2.2.2.2.2.1 (by decide) (fun c_214_6272 => ?_) (fun c_214_6272 => ?_)
          · refine lv_iload hx hb gX12_deal_11.2.2.2.2.2.2.2.2.2 (lv_at0 hl) ?_
            refine toQ hQ0 ?_
            exact RI (v := r6266) hC hP hD hS [3, 0, 1, 2, 4] (jr16268, 2, nI jno, fnw (32 + 6 * jno + 0), fnw (32 + 6 * jno + 2), ip16269, gtrc6270) rfl rfl (by decide) (⟨trivial, by omega⟩) rfl gX12_deal_12
          · refine lv_bipush (v := (-15)) hx hb gX12_deal_11.2.2.2.2.2.2.2.1 (by decide) ?_
            refine lv_goto (tgt := 224) hx hb gX12_deal_11.2.2.2.2.2.2.2.2.1 (by decide) ?_
            refine toQ hQ0 ?_
            exact RI (v := (-15)) hC hP hD hS [3, 0, 1, 2, 4] (jr16268, 2, nI jno, fnw (32 + 6 * jno + 0), fnw (32 + 6 * jno + 2), ip16269, gtrc6270) rfl rfl (by decide) (⟨trivial, by omega⟩) rfl gX12_deal_12
        · refine lv_aload_n hx hb gX12_deal_10.2.2.2.2.2.2.2.2.2 rfl (lv_at3 hl) ?_
          refine lv_iload_n hx hb gX12_deal_11.1 rfl (lv_at5 hl) ?_
          refine lv_iload_n hx hb gX12_deal_11.2.1 rfl (lv_at6 hl) ?_
          refine iV (wr := [(nw, iA G 1662 fnw), (nsh, iA G 4 fnsh), (nsf, iA G 4 fnsf)]) hC hK hl hP hD hS hA (m_dealt3 l G h0 x3 nw nk mhasKept nt mtaped nr mrowMany mroundOf mroundFrom mouts nm mfromHour mtoHour ns mfrom mto msort misFault mdeep mcoded mlines nl nc nF np ntr nb mbestCost nso nsi nit nsh nsf nss nrc 0 2 (nI jno) (fnw (32 + 6 * jno + 0)) (fnw (32 + 6 * jno + 2)) 0 fnrc (by omega) (by omega)) si_X12_372 [0, 4] [1, 2, 3] sm_0_4 fm_0_4 nd_0_4 sm_1_2_3 nd_1_2_3 dj_0_4__1_2_3 rfl rfl rfl rfl rfl (Nat.le_of_ble_eq_true rfl) rm_60_50_3 ⟨Nat.le_of_ble_eq_true rfl, Nat.le_of_ble_eq_true rfl⟩ gX12_deal_11.2.2.1 (fun r6273 => Ktu3 fun jr16275 ip16276 gtrc6277 => ?_)
          intro H locs hr6273 hP hD hS
          try dsimp only at hr6273
          refine Kpdr (ws := [(nw, iA G 1662 fnw), (nsh, iA G 4 fnsh), (nsf, iA G 4 fnsf), (h0, oX12 nw nk mhasKept nt mtaped nr mrowMany mroundOf mroundFrom mouts nm mfromHour mtoHour ns mfrom mto msort misFault mdeep mcoded mlines nl nc nF np ntr nb mbestCost nso nsi nit nsh nsf nss nrc (nI jr16275) 2 (nI jno) (fnw (32 + 6 * jno + 0)) (fnw (32 + 6 * jno + 2)) ip16276), (nrc, iA G 30 gtrc6277)]) hP hD (fun hP hD => ?_)
          obtain ⟨hr6273, w6278⟩ := hr6273
          refine lv_istore (lv' := [(7, .int r6273), (6, .int 0), (5, .int 1), (4, .int 2), (0, .ref h0), (1, .int (nI jt)), (2, .int 3), (3, .int x3)]) hx hb gX12_deal_11.2.2.2.1 hl (by decide) rfl (fun ls hl => ?_)
          refine lv_aload_n hx hb gX12_deal_11.2.2.2.2.1 rfl (lv_at4 hl) ?_
          refine gf_X12_380 hC rfl hK hP 3 rfl rfl gX12_deal_11.2.2.2.2.2.1 ?_
          refine lv_if_eq (tgt := 222) hx hb gX12_deal_11.2.2.2.2.2.2.1 (by decide) (fun c_214_6279 => ?_) (fun c_214_6279 => ?_)
          · refine lv_iload hx hb gX12_deal_11.2.2.2.2.2.2.2.2.2 (lv_at0 hl) ?_
            refine toQ hQ0 ?_
            exact RI (v := r6273) hC hP hD hS [3, 0, 1, 2, 4] (jr16275, 2, nI jno, fnw (32 + 6 * jno + 0), fnw (32 + 6 * jno + 2), ip16276, gtrc6277) rfl rfl (by decide) (⟨trivial, by omega⟩) rfl gX12_deal_12
          · refine lv_bipush (v := (-15)) hx hb gX12_deal_11.2.2.2.2.2.2.2.1 (by decide) ?_
            refine lv_goto (tgt := 224) hx hb gX12_deal_11.2.2.2.2.2.2.2.2.1 (by decide) ?_
            refine toQ hQ0 ?_
            exact RI (v := (-15)) hC hP hD hS [3, 0, 1, 2, 4] (jr16275, 2, nI jno, fnw (32 + 6 * jno + 0), fnw (32 + 6 * jno + 2), ip16276, gtrc6277) rfl rfl (by decide) (⟨trivial, by omega⟩) rfl gX12_deal_12
      · refine lv_istore (lv' := [(4, .int 3), (0, .ref h0), (1, .int (nI jt)), (2, .int x2), (3, .int x3)]) hx hb gX12_deal_1.2.2.2.2.1 hl (by decide) rfl (fun ls hl => ?_)
        refine lv_iload hx hb gX12_deal_1.2.2.2.2.2.1 (lv_at0 hl) ?_
        refine lv_if_ge (tgt := 37) hx hb gX12_deal_1.2.2.2.2.2.2.1 (by decide) (fun _ => ?_) (fun c9 => absurd (by decide) c9)
        refine lv_aload_n hx hb gX12_deal_1.2.2.2.2.2.2.2.2.2 rfl (lv_at1 hl) ?_
        refine lv_iload hx hb gX12_deal_2.1 (lv_at0 hl) ?_
        refine pf_X12_354 hC rfl hK hP hD hS 0 (ws' := [(h0, oX12 nw nk mhasKept nt mtaped nr mrowMany mroundOf mroundFrom mouts nm mfromHour mtoHour ns mfrom mto msort misFault mdeep mcoded mlines nl nc nF np ntr nb mbestCost nso nsi nit nsh nsf nss nrc 0 3 mnumber mwhose msize misParted), (nw, iA G 1662 fnw), (nsh, iA G 4 fnsh), (nsf, iA G 4 fnsf), (nrc, iA G 30 fnrc)]) rfl (Nat.le_of_ble_eq_true rfl) rfl rfl rfl gX12_deal_2.2.1 (fun H locs hP hD hS => ?_)
        refine lv_aload_n hx hb gX12_deal_2.2.2.1 rfl (lv_at1 hl) ?_
        refine lv_aload_n hx hb gX12_deal_2.2.2.2.1 rfl (lv_at1 hl) ?_
        refine gf_X12_75 hC rfl hK hP 0 rfl rfl gX12_deal_2.2.2.2.2.1 ?_
        refine lv_iload_n hx hb gX12_deal_2.2.2.2.2.2.1 rfl (lv_at2 hl) ?_
        refine aldN hC hK hP 3 rfl (k := jt) (by omega) (Nat.le_of_ble_eq_true rfl) (v := fnsf jt) rfl gX12_deal_2.2.2.2.2.2.2.1 ?_
        refine lv_topi (fun x6280 ex6280 => ?_)
        obtain ⟨hko9, jno, hjno, ejno⟩ := a6209
        refine eqi (x1 := nI jno) (ex6280.trans ejno) ?_
        refine pf_X12_378 hC rfl hK hP hD hS 0 (ws' := [(h0, oX12 nw nk mhasKept nt mtaped nr mrowMany mroundOf mroundFrom mouts nm mfromHour mtoHour ns mfrom mto msort misFault mdeep mcoded mlines nl nc nF np ntr nb mbestCost nso nsi nit nsh nsf nss nrc 0 3 (nI jno) mwhose msize misParted), (nw, iA G 1662 fnw), (nsh, iA G 4 fnsh), (nsf, iA G 4 fnsf), (nrc, iA G 30 fnrc)]) rfl (Nat.le_of_ble_eq_true rfl) rfl rfl rfl gX12_deal_2.2.2.2.2.2.2.2.1 (fun H locs hP hD hS => ?_)
        refine lv_aload_n hx hb gX12_deal_2.2.2.2.2.2.2.2.2.1 rfl (lv_at1 hl) ?_
        refine gf_X12_72 hC rfl hK hP 0 rfl rfl gX12_deal_2.2.2.2.2.2.2.2.2.2 ?_
        refine lv_iload_n hx hb gX12_deal_3.1 rfl (lv_at2 hl) ?_
        refine aldN hC hK hP 2 rfl (k := jt) (by omega) (Nat.le_of_ble_eq_true rfl) (v := fnsh jt) rfl gX12_deal_3.2.1 ?_
        refine lv_topi (fun x6281 ex6281 => ?_)
        refine lv_iconst (v := 1) hx hb gX12_deal_3.2.2.1 (by decide) ?_
        refine lv_icmp_ne (tgt := 67) hx hb gX12_deal_3.2.2.2.1 (by decide) (fun c9 => absurd (ex6281.trans hko9) c9) (fun _ => ?_)
        refine lv_iconst (v := 1) hx hb gX12_deal_3.2.2.2.2.1 (by decide) ?_
        refine lv_goto (tgt := 68) hx hb gX12_deal_3.2.2.2.2.2.1 (by decide) ?_
        refine lv_istore (lv' := [(5, .int 1), (4, .int 3), (0, .ref h0), (1, .int (nI jt)), (2, .int x2), (3, .int x3)]) hx hb gX12_deal_3.2.2.2.2.2.2.2.1 hl (by decide) rfl (fun ls hl => ?_)
        refine lv_aload_n hx hb gX12_deal_3.2.2.2.2.2.2.2.2.1 rfl (lv_at2 hl) ?_
        refine gf_X12_72 hC rfl hK hP 0 rfl rfl gX12_deal_3.2.2.2.2.2.2.2.2.2 ?_
        refine lv_iload_n hx hb gX12_deal_4.1 rfl (lv_at3 hl) ?_
        refine aldN hC hK hP 2 rfl (k := jt) (by omega) (Nat.le_of_ble_eq_true rfl) (v := fnsh jt) rfl gX12_deal_4.2.1 ?_
        refine lv_topi (fun x6282 ex6282 => ?_)
        refine lv_iconst (v := 2) hx hb gX12_deal_4.2.2.1 (by decide) ?_
        refine lv_icmp_ne (tgt := 84) hx hb gX12_deal_4.2.2.2.1 (by decide) (fun _ => ?_) (fun c9 => absurd c9 (fun h9 => absurd (hko9.symm.trans ((ex6282.symm).trans h9)) (by decide)))
        refine lv_iconst (v := 0) hx hb gX12_deal_4.2.2.2.2.2.2.1 (by decide) ?_
        refine lv_istore (lv' := [(6, .int 0), (5, .int 1), (4, .int 3), (0, .ref h0), (1, .int (nI jt)), (2, .int x2), (3, .int x3)]) hx hb gX12_deal_4.2.2.2.2.2.2.2.1 hl (by decide) rfl (fun ls hl => ?_)
        refine lv_aload_n hx hb gX12_deal_4.2.2.2.2.2.2.2.2.1 rfl (lv_at3 hl) ?_
        refine lv_iload hx hb gX12_deal_4.2.2.2.2.2.2.2.2.2 (lv_at1 hl) ?_
        refine lv_if_eq (tgt := 105) hx hb gX12_deal_5.1 (by decide) (fun c9 => absurd c9 (by decide)) (fun _ => ?_)
        refine lv_aload_n hx hb gX12_deal_5.2.1 rfl (lv_at3 hl) ?_
        refine lv_aload_n hx hb gX12_deal_5.2.2.1 rfl (lv_at3 hl) ?_
        refine gf_X12_378 hC rfl hK hP 0 rfl rfl gX12_deal_5.2.2.2.1 ?_
        refine lv_iconst (v := 0) hx hb gX12_deal_5.2.2.2.2.1 (by decide) ?_
        refine pV hC hK hl hP hD (m_paper l G h0 jno 0 nw nk mhasKept nt mtaped nr mrowMany mroundOf mroundFrom mouts nm mfromHour mtoHour ns mfrom mto msort misFault mdeep mcoded mlines nl nc nF np ntr nb mbestCost nso nsi nit nsh nsf nss nrc 0 3 (nI jno) mwhose msize misParted fnw (by omega) (by omega)) si_X12_88 [0, 1] sm_0_1 fm_0_1 nd_0_1 rfl rfl rfl rfl rfl (Nat.le_of_ble_eq_true rfl) rm_60_1_3 ⟨by first | exact Nat.le_of_ble_eq_true rfl | exact Nat.zero_le _, by first | exact Nat.le_of_ble_eq_true rfl | exact Nat.zero_le _⟩ gX12_deal_5.2.2.2.2.2.1 (Keqr ?_)
        refine lv_goto (tgt := 139) hx hb gX12_deal_5.2.2.2.2.2.2.1 (by decide) ?_
        refine pf_X12_375 hC rfl hK hP hD hS 0 (ws' := [(h0, oX12 nw nk mhasKept nt mtaped nr mrowMany mroundOf mroundFrom mouts nm mfromHour mtoHour ns mfrom mto msort misFault mdeep mcoded mlines nl nc nF np ntr nb mbestCost nso nsi nit nsh nsf nss nrc 0 3 (nI jno) (fnw (32 + 6 * jno + 0)) msize misParted), (nw, iA G 1662 fnw), (nsh, iA G 4 fnsh), (nsf, iA G 4 fnsf), (nrc, iA G 30 fnrc)]) rfl (Nat.le_of_ble_eq_true rfl) rfl rfl rfl gX12_deal_7.2.2.2.2.2.2.1 (fun H locs hP hD hS => ?_)
        refine lv_aload_n hx hb gX12_deal_7.2.2.2.2.2.2.2.1 rfl (lv_at3 hl) ?_
        refine lv_iload hx hb gX12_deal_7.2.2.2.2.2.2.2.2.1 (lv_at1 hl) ?_
        refine lv_if_eq (tgt := 160) hx hb gX12_deal_7.2.2.2.2.2.2.2.2.2 (by decide) (fun c9 => absurd c9 (by decide)) (fun _ => ?_)
        refine lv_aload_n hx hb gX12_deal_8.1 rfl (lv_at3 hl) ?_
        refine lv_aload_n hx hb gX12_deal_8.2.1 rfl (lv_at3 hl) ?_
        refine gf_X12_378 hC rfl hK hP 0 rfl rfl gX12_deal_8.2.2.1 ?_
        refine lv_iconst (v := 2) hx hb gX12_deal_8.2.2.2.1 (by decide) ?_
        refine pV hC hK hl hP hD (m_paper l G h0 jno 2 nw nk mhasKept nt mtaped nr mrowMany mroundOf mroundFrom mouts nm mfromHour mtoHour ns mfrom mto msort misFault mdeep mcoded mlines nl nc nF np ntr nb mbestCost nso nsi nit nsh nsf nss nrc 0 3 (nI jno) (fnw (32 + 6 * jno + 0)) msize misParted fnw (by omega) (by omega)) si_X12_88 [0, 1] sm_0_1 fm_0_1 nd_0_1 rfl rfl rfl rfl rfl (Nat.le_of_ble_eq_true rfl) rm_60_1_3 ⟨by first | exact Nat.le_of_ble_eq_true rfl | exact Nat.zero_le _, by first | exact Nat.le_of_ble_eq_true rfl | exact Nat.zero_le _⟩ gX12_deal_8.2.2.2.2.1 (Keqr ?_)
        refine lv_goto (tgt := 194) hx hb gX12_deal_8.2.2.2.2.2.1 (by decide) ?_
        refine pf_X12_369 hC rfl hK hP hD hS 0 (ws' := [(h0, oX12 nw nk mhasKept nt mtaped nr mrowMany mroundOf mroundFrom mouts nm mfromHour mtoHour ns mfrom mto msort misFault mdeep mcoded mlines nl nc nF np ntr nb mbestCost nso nsi nit nsh nsf nss nrc 0 3 (nI jno) (fnw (32 + 6 * jno + 0)) (fnw (32 + 6 * jno + 2)) misParted), (nw, iA G 1662 fnw), (nsh, iA G 4 fnsh), (nsf, iA G 4 fnsf), (nrc, iA G 30 fnrc)]) rfl (Nat.le_of_ble_eq_true rfl) rfl rfl rfl gX12_deal_10.2.2.2.2.2.1 (fun H locs hP hD hS => ?_)
        refine lv_aload_n hx hb gX12_deal_10.2.2.2.2.2.2.1 rfl (lv_at3 hl) ?_
        refine lv_iconst (v := 0) hx hb gX12_deal_10.2.2.2.2.2.2.2.1 (by decide) ?_
        refine pf_X12_380 hC rfl hK hP hD hS 0 (ws' := [(h0, oX12 nw nk mhasKept nt mtaped nr mrowMany mroundOf mroundFrom mouts nm mfromHour mtoHour ns mfrom mto msort misFault mdeep mcoded mlines nl nc nF np ntr nb mbestCost nso nsi nit nsh nsf nss nrc 0 3 (nI jno) (fnw (32 + 6 * jno + 0)) (fnw (32 + 6 * jno + 2)) 0), (nw, iA G 1662 fnw), (nsh, iA G 4 fnsh), (nsf, iA G 4 fnsf), (nrc, iA G 30 fnrc)]) rfl (Nat.le_of_ble_eq_true rfl) rfl (by decide +kernel) (by decide +kernel) gX12_deal_10.2.2.2.2.2.2.2.2.1 (fun H locs hP hD hS => ?_)
        obtain ⟨jdl, hjdl, rfl⟩ := Wi_nat (N := 3) (by decide) a6207
        rcases (show jdl = 0 ∨ jdl = 1 ∨ jdl = 2 ∨ jdl = 3 by omega) with rfl | rfl | rfl | rfl
        · refine lv_aload_n hx hb gX12_deal_10.2.2.2.2.2.2.2.2.2 rfl (lv_at3 hl) ?_
          refine lv_iload_n hx hb gX12_deal_11.1 rfl (lv_at5 hl) ?_
          refine lv_iload_n hx hb gX12_deal_11.2.1 rfl (lv_at6 hl) ?_
          refine iV (wr := [(nw, iA G 1662 fnw), (nsh, iA G 4 fnsh), (nsf, iA G 4 fnsf)]) hC hK hl hP hD hS hA (m_dealt0 l G h0 x3 nw nk mhasKept nt mtaped nr mrowMany mroundOf mroundFrom mouts nm mfromHour mtoHour ns mfrom mto msort misFault mdeep mcoded mlines nl nc nF np ntr nb mbestCost nso nsi nit nsh nsf nss nrc 0 3 (nI jno) (fnw (32 + 6 * jno + 0)) (fnw (32 + 6 * jno + 2)) 0 fnrc (by omega) (by omega)) si_X12_372 [0, 4] [1, 2, 3] sm_0_4 fm_0_4 nd_0_4 sm_1_2_3 nd_1_2_3 dj_0_4__1_2_3 rfl rfl rfl rfl rfl (Nat.le_of_ble_eq_true rfl) rm_60_14_3 ⟨Nat.le_of_ble_eq_true rfl, Nat.le_of_ble_eq_true rfl⟩ gX12_deal_11.2.2.1 (fun r6287 => Ktu3 fun jr16289 ip16290 gtrc6291 => ?_)
          intro H locs hr6287 hP hD hS
          try dsimp only at hr6287
          refine Kpdr (ws := [(nw, iA G 1662 fnw), (nsh, iA G 4 fnsh), (nsf, iA G 4 fnsf), (h0, oX12 nw nk mhasKept nt mtaped nr mrowMany mroundOf mroundFrom mouts nm mfromHour mtoHour ns mfrom mto msort misFault mdeep mcoded mlines nl nc nF np ntr nb mbestCost nso nsi nit nsh nsf nss nrc (nI jr16289) 3 (nI jno) (fnw (32 + 6 * jno + 0)) (fnw (32 + 6 * jno + 2)) ip16290), (nrc, iA G 30 gtrc6291)]) hP hD (fun hP hD => ?_)
          obtain ⟨hr6287, w6292⟩ := hr6287
          refine lv_istore (lv' := [(7, .int r6287), (6, .int 0), (5, .int 1), (4, .int 3), (0, .ref h0), (1, .int (nI jt)), (2, .int 0), (3, .int x3)]) hx hb gX12_deal_11.2.2.2.1 hl (by decide) rfl (fun ls hl => ?_)
          refine lv_aload_n hx hb gX12_deal_11.2.2.2.2.1 rfl (lv_at4 hl) ?_
          refine gf_X12_380 hC rfl hK hP 3 rfl rfl gX12_deal_11.2.2.2.2.2.1 ?_
          refine lv_if_eq (tgt := 222) hx hb gX12_deal_11.2.2.2.2.2.2.1 (by decide) (fun c_214_6293 => ?_) (fun c_214_6293 => ?_)
          · refine lv_iload hx hb gX12_deal_11.2.2.2.2.2.2.2.2.2 (lv_at0 hl) ?_
            refine toQ hQ0 ?_
            exact RI (v := r6287) hC hP hD hS [3, 0, 1, 2, 4] (jr16289, 3, nI jno, fnw (32 + 6 * jno + 0), fnw (32 + 6 * jno + 2), ip16290, gtrc6291) rfl rfl (by decide) (⟨trivial, by omega⟩) rfl gX12_deal_12
          · refine lv_bipush (v := (-15)) hx hb gX12_deal_11.2.2.2.2.2.2.2.1 (by decide) ?_
            refine lv_goto (tgt := 224) hx hb gX12_deal_11.2.2.2.2.2.2.2.2.1 (by decide) ?_
            refine toQ hQ0 ?_
            exact RI (v := (-15)) hC hP hD hS [3, 0, 1, 2, 4] (jr16289, 3, nI jno, fnw (32 + 6 * jno + 0), fnw (32 + 6 * jno + 2), ip16290, gtrc6291) rfl rfl (by decide) (⟨trivial, by omega⟩) rfl gX12_deal_12
        · refine lv_aload_n hx hb gX12_deal_10.2.2.2.2.2.2.2.2.2 rfl (lv_at3 hl) ?_
          refine lv_iload_n hx hb gX12_deal_11.1 rfl (lv_at5 hl) ?_
          refine lv_iload_n hx hb gX12_deal_11.2.1 rfl (lv_at6 hl) ?_
          refine iV (wr := [(nw, iA G 1662 fnw), (nsh, iA G 4 fnsh), (nsf, iA G 4 fnsf)]) hC hK hl hP hD hS hA (m_dealt1 l G h0 x3 nw nk mhasKept nt mtaped nr mrowMany mroundOf mroundFrom mouts nm mfromHour mtoHour ns mfrom mto msort misFault mdeep mcoded mlines nl nc nF np ntr nb mbestCost nso nsi nit nsh nsf nss nrc 0 3 (nI jno) (fnw (32 + 6 * jno + 0)) (fnw (32 + 6 * jno + 2)) 0 fnrc (by omega) (by omega)) si_X12_372 [0, 4] [1, 2, 3] sm_0_4 fm_0_4 nd_0_4 sm_1_2_3 nd_1_2_3 dj_0_4__1_2_3 rfl rfl rfl rfl rfl (Nat.le_of_ble_eq_true rfl) rm_60_26_3 ⟨Nat.le_of_ble_eq_true rfl, Nat.le_of_ble_eq_true rfl⟩ gX12_deal_11.2.2.1 (fun r6294 => Ktu3 fun jr16296 ip16297 gtrc6298 => ?_)
          intro H locs hr6294 hP hD hS
          try dsimp only at hr6294
          refine Kpdr (ws := [(nw, iA G 1662 fnw), (nsh, iA G 4 fnsh), (nsf, iA G 4 fnsf), (h0, oX12 nw nk mhasKept nt mtaped nr mrowMany mroundOf mroundFrom mouts nm mfromHour mtoHour ns mfrom mto msort misFault mdeep mcoded mlines nl nc nF np ntr nb mbestCost nso nsi nit nsh nsf nss nrc (nI jr16296) 3 (nI jno) (fnw (32 + 6 * jno + 0)) (fnw (32 + 6 * jno + 2)) ip16297), (nrc, iA G 30 gtrc6298)]) hP hD (fun hP hD => ?_)
          obtain ⟨hr6294, w6299⟩ := hr6294
          refine lv_istore (lv' := [(7, .int r6294), (6, .int 0), (5, .int 1), (4, .int 3), (0, .ref h0), (1, .int (nI jt)), (2, .int 1), (3, .int x3)]) hx hb gX12_deal_11.2.2.2.1 hl (by decide) rfl (fun ls hl => ?_)
          refine lv_aload_n hx hb gX12_deal_11.2.2.2.2.1 rfl (lv_at4 hl) ?_
          refine gf_X12_380 hC rfl hK hP 3 rfl rfl gX12_deal_11.2.2.2.2.2.1 ?_
          refine lv_if_eq (tgt := 222) hx hb gX12_deal_11.2.2.2.2.2.2.1 (by decide) (fun c_214_6300 => ?_) (fun c_214_6300 => ?_)
          · refine lv_iload hx hb gX12_deal_11.2.2.2.2.2.2.2.2.2 (lv_at0 hl) ?_
            refine toQ hQ0 ?_
            exact RI (v := r6294) hC hP hD hS [3, 0, 1, 2, 4] (jr16296, 3, nI jno, fnw (32 + 6 * jno + 0), fnw (32 + 6 * jno + 2), ip16297, gtrc6298) rfl rfl (by decide) (⟨trivial, by omega⟩) rfl gX12_deal_12
          · refine lv_bipush (v := (-15)) hx hb gX12_deal_11.2.2.2.2.2.2.2.1 (by decide) ?_
            refine lv_goto (tgt := 224) hx hb gX12_deal_11.2.2.2.2.2.2.2.2.1 (by decide) ?_
            refine toQ hQ0 ?_
            exact RI (v := (-15)) hC hP hD hS [3, 0, 1, 2, 4] (jr16296, 3, nI jno, fnw (32 + 6 * jno + 0), fnw (32 + 6 * jno + 2), ip16297, gtrc6298) rfl rfl (by decide) (⟨trivial, by omega⟩) rfl gX12_deal_12
        · refine lv_aload_n hx hb gX12_deal_10.2.2.2.2.2.2.2.2.2 rfl (lv_at3 hl) ?_
          refine lv_iload_n hx hb gX12_deal_11.1 rfl (lv_at5 hl) ?_
          refine lv_iload_n hx hb gX12_deal_11.2.1 rfl (lv_at6 hl) ?_
          refine iV (wr := [(nw, iA G 1662 fnw), (nsh, iA G 4 fnsh), (nsf, iA G 4 fnsf)]) hC hK hl hP hD hS hA (m_dealt2 l G h0 x3 nw nk mhasKept nt mtaped nr mrowMany mroundOf mroundFrom mouts nm mfromHour mtoHour ns mfrom mto msort misFault mdeep mcoded mlines nl nc nF np ntr nb mbestCost nso nsi nit nsh nsf nss nrc 0 3 (nI jno) (fnw (32 + 6 * jno + 0)) (fnw (32 + 6 * jno + 2)) 0 fnrc (by omega) (by omega)) si_X12_372 [0, 4] [1, 2, 3] sm_0_4 fm_0_4 nd_0_4 sm_1_2_3 nd_1_2_3 dj_0_4__1_2_3 rfl rfl rfl rfl rfl (Nat.le_of_ble_eq_true rfl) rm_60_38_3 ⟨Nat.le_of_ble_eq_true rfl, Nat.le_of_ble_eq_true rfl⟩ gX12_deal_11.2.2.1 (fun r6301 => Ktu3 fun jr16303 ip16304 gtrc6305 => ?_)
          intro H locs hr6301 hP hD hS
          try dsimp only at hr6301
          refine Kpdr (ws := [(nw, iA G 1662 fnw), (nsh, iA G 4 fnsh), (nsf, iA G 4 fnsf), (h0, oX12 nw nk mhasKept nt mtaped nr mrowMany mroundOf mroundFrom mouts nm mfromHour mtoHour ns mfrom mto msort misFault mdeep mcoded mlines nl nc nF np ntr nb mbestCost nso nsi nit nsh nsf nss nrc (nI jr16303) 3 (nI jno) (fnw (32 + 6 * jno + 0)) (fnw (32 + 6 * jno + 2)) ip16304), (nrc, iA G 30 gtrc6305)]) hP hD (fun hP hD => ?_)
          obtain ⟨hr6301, w6306⟩ := hr6301
          refine lv_istore (lv' := [(7, .int r6301), (6, .int 0), (5, .int 1), (4, .int 3), (0, .ref h0), (1, .int (nI jt)), (2, .int 2), (3, .int x3)]) hx hb gX12_deal_11.2.2.2.1 hl (by decide) rfl (fun ls hl => ?_)
          refine lv_aload_n hx hb gX12_deal_11.2.2.2.2.1 rfl (lv_at4 hl) ?_
          refine gf_X12_380 hC rfl hK hP 3 rfl rfl gX12_deal_11.2.2.2.2.2.1 ?_
          refine lv_if_eq (tgt := 222) hx hb gX12_deal_11.2.2.2.2.2.2.1 (by decide) (fun c_214_6307 => ?_) (fun c_214_6307 => ?_)
          · refine lv_iload hx hb gX12_deal_11.2.2.2.2.2.2.2.2.2 (lv_at0 hl) ?_
            refine toQ hQ0 ?_
            exact RI (v := r6301) hC hP hD hS [3, 0, 1, 2, 4] (jr16303, 3, nI jno, fnw (32 + 6 * jno + 0), fnw (32 + 6 * jno + 2), ip16304, gtrc6305) rfl rfl (by decide) (⟨trivial, by omega⟩) rfl gX12_deal_12
          · refine lv_bipush (v := (-15)) hx hb gX12_deal_11.2.2.2.2.2.2.2.1 (by decide) ?_
            refine lv_goto (tgt := 224) hx hb gX12_deal_11.2.2.2.2.2.2.2.2.1 (by decide) ?_
            refine toQ hQ0 ?_
            exact RI (v := (-15)) hC hP hD hS [3, 0, 1, 2, 4] (jr16303, 3, nI jno, fnw (32 + 6 * jno + 0), fnw (32 + 6 * jno + 2), ip16304, gtrc6305) rfl rfl (by decide) (⟨trivial, by omega⟩) rfl gX12_deal_12
        · refine lv_aload_n hx hb gX12_deal_10.2.2.2.2.2.2.2.2.2 rfl (lv_at3 hl) ?_
          refine lv_iload_n hx hb gX12_deal_11.1 rfl (lv_at5 hl) ?_
          refine lv_iload_n hx hb gX12_deal_11.2.1 rfl (lv_at6 hl) ?_
          refine iV (wr := [(nw, iA G 1662 fnw), (nsh, iA G 4 fnsh), (nsf, iA G 4 fnsf)]) hC hK hl hP hD hS hA (m_dealt3 l G h0 x3 nw nk mhasKept nt mtaped nr mrowMany mroundOf mroundFrom mouts nm mfromHour mtoHour ns mfrom mto msort misFault mdeep mcoded mlines nl nc nF np ntr nb mbestCost nso nsi nit nsh nsf nss nrc 0 3 (nI jno) (fnw (32 + 6 * jno + 0)) (fnw (32 + 6 * jno + 2)) 0 fnrc (by omega) (by omega)) si_X12_372 [0, 4] [1, 2, 3] sm_0_4 fm_0_4 nd_0_4 sm_1_2_3 nd_1_2_3 dj_0_4__1_2_3 rfl rfl rfl rfl rfl (Nat.le_of_ble_eq_true rfl) rm_60_50_3 ⟨Nat.le_of_ble_eq_true rfl, Nat.le_of_ble_eq_true rfl⟩ gX12_deal_11.2.2.1 (fun r6308 => Ktu3 fun jr16310 ip16311 gtrc6312 => ?_)
          intro H locs hr6308 hP hD hS
          try dsimp only at hr6308
          refine Kpdr (ws := [(nw, iA G 1662 fnw), (nsh, iA G 4 fnsh), (nsf, iA G 4 fnsf), (h0, oX12 nw nk mhasKept nt mtaped nr mrowMany mroundOf mroundFrom mouts nm mfromHour mtoHour ns mfrom mto msort misFault mdeep mcoded mlines nl nc nF np ntr nb mbestCost nso nsi nit nsh nsf nss nrc (nI jr16310) 3 (nI jno) (fnw (32 + 6 * jno + 0)) (fnw (32 + 6 * jno + 2)) ip16311), (nrc, iA G 30 gtrc6312)]) hP hD (fun hP hD => ?_)
          obtain ⟨hr6308, w6313⟩ := hr6308
          refine lv_istore (lv' := [(7, .int r6308), (6, .int 0), (5, .int 1), (4, .int 3), (0, .ref h0), (1, .int (nI jt)), (2, .int 3), (3, .int x3)]) hx hb gX12_deal_11.2.2.2.1 hl (by decide) rfl (fun ls hl => ?_)
          refine lv_aload_n hx hb gX12_deal_11.2.2.2.2.1 rfl (lv_at4 hl) ?_
          refine gf_X12_380 hC rfl hK hP 3 rfl rfl gX12_deal_11.2.2.2.2.2.1 ?_
          refine lv_if_eq (tgt := 222) hx hb gX12_deal_11.2.2.2.2.2.2.1 (by decide) (fun c_214_6314 => ?_) (fun c_214_6314 => ?_)
          · refine lv_iload hx hb gX12_deal_11.2.2.2.2.2.2.2.2.2 (lv_at0 hl) ?_
            refine toQ hQ0 ?_
            exact RI (v := r6308) hC hP hD hS [3, 0, 1, 2, 4] (jr16310, 3, nI jno, fnw (32 + 6 * jno + 0), fnw (32 + 6 * jno + 2), ip16311, gtrc6312) rfl rfl (by decide) (⟨trivial, by omega⟩) rfl gX12_deal_12
          · refine lv_bipush (v := (-15)) hx hb gX12_deal_11.2.2.2.2.2.2.2.1 (by decide) ?_
            refine lv_goto (tgt := 224) hx hb gX12_deal_11.2.2.2.2.2.2.2.2.1 (by decide) ?_
            refine toQ hQ0 ?_
            exact RI (v := (-15)) hC hP hD hS [3, 0, 1, 2, 4] (jr16310, 3, nI jno, fnw (32 + 6 * jno + 0), fnw (32 + 6 * jno + 2), ip16311, gtrc6312) rfl rfl (by decide) (⟨trivial, by omega⟩) rfl gX12_deal_12
      · refine lv_istore (lv' := [(4, .int 4), (0, .ref h0), (1, .int (nI jt)), (2, .int x2), (3, .int x3)]) hx hb gX12_deal_1.2.2.2.2.1 hl (by decide) rfl (fun ls hl => ?_)
        refine lv_iload hx hb gX12_deal_1.2.2.2.2.2.1 (lv_at0 hl) ?_
        refine lv_if_ge (tgt := 37) hx hb gX12_deal_1.2.2.2.2.2.2.1 (by decide) (fun _ => ?_) (fun c9 => absurd (by decide) c9)
        refine lv_aload_n hx hb gX12_deal_1.2.2.2.2.2.2.2.2.2 rfl (lv_at1 hl) ?_
        refine lv_iload hx hb gX12_deal_2.1 (lv_at0 hl) ?_
        refine pf_X12_354 hC rfl hK hP hD hS 0 (ws' := [(h0, oX12 nw nk mhasKept nt mtaped nr mrowMany mroundOf mroundFrom mouts nm mfromHour mtoHour ns mfrom mto msort misFault mdeep mcoded mlines nl nc nF np ntr nb mbestCost nso nsi nit nsh nsf nss nrc 0 4 mnumber mwhose msize misParted), (nw, iA G 1662 fnw), (nsh, iA G 4 fnsh), (nsf, iA G 4 fnsf), (nrc, iA G 30 fnrc)]) rfl (Nat.le_of_ble_eq_true rfl) rfl rfl rfl gX12_deal_2.2.1 (fun H locs hP hD hS => ?_)
        refine lv_aload_n hx hb gX12_deal_2.2.2.1 rfl (lv_at1 hl) ?_
        refine lv_aload_n hx hb gX12_deal_2.2.2.2.1 rfl (lv_at1 hl) ?_
        refine gf_X12_75 hC rfl hK hP 0 rfl rfl gX12_deal_2.2.2.2.2.1 ?_
        refine lv_iload_n hx hb gX12_deal_2.2.2.2.2.2.1 rfl (lv_at2 hl) ?_
        refine aldN hC hK hP 3 rfl (k := jt) (by omega) (Nat.le_of_ble_eq_true rfl) (v := fnsf jt) rfl gX12_deal_2.2.2.2.2.2.2.1 ?_
        refine lv_topi (fun x6315 ex6315 => ?_)
        obtain ⟨hko9, jno, hjno, ejno⟩ := a6209
        refine eqi (x1 := nI jno) (ex6315.trans ejno) ?_
        refine pf_X12_378 hC rfl hK hP hD hS 0 (ws' := [(h0, oX12 nw nk mhasKept nt mtaped nr mrowMany mroundOf mroundFrom mouts nm mfromHour mtoHour ns mfrom mto msort misFault mdeep mcoded mlines nl nc nF np ntr nb mbestCost nso nsi nit nsh nsf nss nrc 0 4 (nI jno) mwhose msize misParted), (nw, iA G 1662 fnw), (nsh, iA G 4 fnsh), (nsf, iA G 4 fnsf), (nrc, iA G 30 fnrc)]) rfl (Nat.le_of_ble_eq_true rfl) rfl rfl rfl gX12_deal_2.2.2.2.2.2.2.2.1 (fun H locs hP hD hS => ?_)
        refine lv_aload_n hx hb gX12_deal_2.2.2.2.2.2.2.2.2.1 rfl (lv_at1 hl) ?_
        refine gf_X12_72 hC rfl hK hP 0 rfl rfl gX12_deal_2.2.2.2.2.2.2.2.2.2 ?_
        refine lv_iload_n hx hb gX12_deal_3.1 rfl (lv_at2 hl) ?_
        refine aldN hC hK hP 2 rfl (k := jt) (by omega) (Nat.le_of_ble_eq_true rfl) (v := fnsh jt) rfl gX12_deal_3.2.1 ?_
        refine lv_topi (fun x6316 ex6316 => ?_)
        refine lv_iconst (v := 1) hx hb gX12_deal_3.2.2.1 (by decide) ?_
        refine lv_icmp_ne (tgt := 67) hx hb gX12_deal_3.2.2.2.1 (by decide) (fun _ => ?_) (fun c9 => absurd c9 (fun h9 => absurd (hko9.symm.trans ((ex6316.symm).trans h9)) (by decide)))
        refine lv_iconst (v := 0) hx hb gX12_deal_3.2.2.2.2.2.2.1 (by decide) ?_
        refine lv_istore (lv' := [(5, .int 0), (4, .int 4), (0, .ref h0), (1, .int (nI jt)), (2, .int x2), (3, .int x3)]) hx hb gX12_deal_3.2.2.2.2.2.2.2.1 hl (by decide) rfl (fun ls hl => ?_)
        refine lv_aload_n hx hb gX12_deal_3.2.2.2.2.2.2.2.2.1 rfl (lv_at2 hl) ?_
        refine gf_X12_72 hC rfl hK hP 0 rfl rfl gX12_deal_3.2.2.2.2.2.2.2.2.2 ?_
        refine lv_iload_n hx hb gX12_deal_4.1 rfl (lv_at3 hl) ?_
        refine aldN hC hK hP 2 rfl (k := jt) (by omega) (Nat.le_of_ble_eq_true rfl) (v := fnsh jt) rfl gX12_deal_4.2.1 ?_
        refine lv_topi (fun x6317 ex6317 => ?_)
        refine lv_iconst (v := 2) hx hb gX12_deal_4.2.2.1 (by decide) ?_
        refine lv_icmp_ne (tgt := 84) hx hb gX12_deal_4.2.2.2.1 (by decide) (fun c9 => absurd (ex6317.trans hko9) c9) (fun _ => ?_)
        refine lv_iconst (v := 1) hx hb gX12_deal_4.2.2.2.2.1 (by decide) ?_
        refine lv_goto (tgt := 85) hx hb gX12_deal_4.2.2.2.2.2.1 (by decide) ?_
        refine lv_istore (lv' := [(6, .int 1), (5, .int 0), (4, .int 4), (0, .ref h0), (1, .int (nI jt)), (2, .int x2), (3, .int x3)]) hx hb gX12_deal_4.2.2.2.2.2.2.2.1 hl (by decide) rfl (fun ls hl => ?_)
        refine lv_aload_n hx hb gX12_deal_4.2.2.2.2.2.2.2.2.1 rfl (lv_at3 hl) ?_
        refine lv_iload hx hb gX12_deal_4.2.2.2.2.2.2.2.2.2 (lv_at1 hl) ?_
        refine lv_if_eq (tgt := 105) hx hb gX12_deal_5.1 (by decide) (fun _ => ?_) (fun c9 => absurd (by decide) c9)
        refine lv_iload hx hb gX12_deal_5.2.2.2.2.2.2.2.1 (lv_at0 hl) ?_
        refine lv_if_eq (tgt := 122) hx hb gX12_deal_5.2.2.2.2.2.2.2.2.1 (by decide) (fun c9 => absurd c9 (by decide)) (fun _ => ?_)
        refine lv_aload_n hx hb gX12_deal_5.2.2.2.2.2.2.2.2.2 rfl (lv_at3 hl) ?_
        refine lv_aload_n hx hb gX12_deal_6.1 rfl (lv_at3 hl) ?_
        refine gf_X12_378 hC rfl hK hP 0 rfl rfl gX12_deal_6.2.1 ?_
        refine lv_iconst (v := 0) hx hb gX12_deal_6.2.2.1 (by decide) ?_
        refine pV hC hK hl hP hD (m_saying l G h0 jno 0 nw nk mhasKept nt mtaped nr mrowMany mroundOf mroundFrom mouts nm mfromHour mtoHour ns mfrom mto msort misFault mdeep mcoded mlines nl nc nF np ntr nb mbestCost nso nsi nit nsh nsf nss nrc 0 4 (nI jno) mwhose msize misParted fnw (by omega) (by omega)) si_X12_114 [0, 1] sm_0_1 fm_0_1 nd_0_1 rfl rfl rfl rfl rfl (Nat.le_of_ble_eq_true rfl) rm_60_1_3 ⟨by first | exact Nat.le_of_ble_eq_true rfl | exact Nat.zero_le _, by first | exact Nat.le_of_ble_eq_true rfl | exact Nat.zero_le _⟩ gX12_deal_6.2.2.2.1 (Keqr ?_)
        refine lv_goto (tgt := 139) hx hb gX12_deal_6.2.2.2.2.1 (by decide) ?_
        refine pf_X12_375 hC rfl hK hP hD hS 0 (ws' := [(h0, oX12 nw nk mhasKept nt mtaped nr mrowMany mroundOf mroundFrom mouts nm mfromHour mtoHour ns mfrom mto msort misFault mdeep mcoded mlines nl nc nF np ntr nb mbestCost nso nsi nit nsh nsf nss nrc 0 4 (nI jno) (fnw (1424 + 8 * jno + 0)) msize misParted), (nw, iA G 1662 fnw), (nsh, iA G 4 fnsh), (nsf, iA G 4 fnsf), (nrc, iA G 30 fnrc)]) rfl (Nat.le_of_ble_eq_true rfl) rfl rfl rfl gX12_deal_7.2.2.2.2.2.2.1 (fun H locs hP hD hS => ?_)
        refine lv_aload_n hx hb gX12_deal_7.2.2.2.2.2.2.2.1 rfl (lv_at3 hl) ?_
        refine lv_iload hx hb gX12_deal_7.2.2.2.2.2.2.2.2.1 (lv_at1 hl) ?_
        refine lv_if_eq (tgt := 160) hx hb gX12_deal_7.2.2.2.2.2.2.2.2.2 (by decide) (fun _ => ?_) (fun c9 => absurd (by decide) c9)
        refine lv_iload hx hb gX12_deal_8.2.2.2.2.2.2.1 (lv_at0 hl) ?_
        refine lv_if_eq (tgt := 177) hx hb gX12_deal_8.2.2.2.2.2.2.2.1 (by decide) (fun c9 => absurd c9 (by decide)) (fun _ => ?_)
        refine lv_aload_n hx hb gX12_deal_8.2.2.2.2.2.2.2.2.1 rfl (lv_at3 hl) ?_
        refine lv_aload_n hx hb gX12_deal_8.2.2.2.2.2.2.2.2.2 rfl (lv_at3 hl) ?_
        refine gf_X12_378 hC rfl hK hP 0 rfl rfl gX12_deal_9.1 ?_
        refine lv_iconst (v := 4) hx hb gX12_deal_9.2.1 (by decide) ?_
        refine pV hC hK hl hP hD (m_saying l G h0 jno 4 nw nk mhasKept nt mtaped nr mrowMany mroundOf mroundFrom mouts nm mfromHour mtoHour ns mfrom mto msort misFault mdeep mcoded mlines nl nc nF np ntr nb mbestCost nso nsi nit nsh nsf nss nrc 0 4 (nI jno) (fnw (1424 + 8 * jno + 0)) msize misParted fnw (by omega) (by omega)) si_X12_114 [0, 1] sm_0_1 fm_0_1 nd_0_1 rfl rfl rfl rfl rfl (Nat.le_of_ble_eq_true rfl) rm_60_1_3 ⟨by first | exact Nat.le_of_ble_eq_true rfl | exact Nat.zero_le _, by first | exact Nat.le_of_ble_eq_true rfl | exact Nat.zero_le _⟩ gX12_deal_9.2.2.1 (Keqr ?_)
        refine lv_goto (tgt := 194) hx hb gX12_deal_9.2.2.2.1 (by decide) ?_
        refine pf_X12_369 hC rfl hK hP hD hS 0 (ws' := [(h0, oX12 nw nk mhasKept nt mtaped nr mrowMany mroundOf mroundFrom mouts nm mfromHour mtoHour ns mfrom mto msort misFault mdeep mcoded mlines nl nc nF np ntr nb mbestCost nso nsi nit nsh nsf nss nrc 0 4 (nI jno) (fnw (1424 + 8 * jno + 0)) (fnw (1424 + 8 * jno + 4)) misParted), (nw, iA G 1662 fnw), (nsh, iA G 4 fnsh), (nsf, iA G 4 fnsf), (nrc, iA G 30 fnrc)]) rfl (Nat.le_of_ble_eq_true rfl) rfl rfl rfl gX12_deal_10.2.2.2.2.2.1 (fun H locs hP hD hS => ?_)
        refine lv_aload_n hx hb gX12_deal_10.2.2.2.2.2.2.1 rfl (lv_at3 hl) ?_
        refine lv_iconst (v := 0) hx hb gX12_deal_10.2.2.2.2.2.2.2.1 (by decide) ?_
        refine pf_X12_380 hC rfl hK hP hD hS 0 (ws' := [(h0, oX12 nw nk mhasKept nt mtaped nr mrowMany mroundOf mroundFrom mouts nm mfromHour mtoHour ns mfrom mto msort misFault mdeep mcoded mlines nl nc nF np ntr nb mbestCost nso nsi nit nsh nsf nss nrc 0 4 (nI jno) (fnw (1424 + 8 * jno + 0)) (fnw (1424 + 8 * jno + 4)) 0), (nw, iA G 1662 fnw), (nsh, iA G 4 fnsh), (nsf, iA G 4 fnsf), (nrc, iA G 30 fnrc)]) rfl (Nat.le_of_ble_eq_true rfl) rfl (by decide +kernel) (by decide +kernel) gX12_deal_10.2.2.2.2.2.2.2.2.1 (fun H locs hP hD hS => ?_)
        obtain ⟨jdl, hjdl, rfl⟩ := Wi_nat (N := 3) (by decide) a6207
        rcases (show jdl = 0 ∨ jdl = 1 ∨ jdl = 2 ∨ jdl = 3 by omega) with rfl | rfl | rfl | rfl
        · refine lv_aload_n hx hb gX12_deal_10.2.2.2.2.2.2.2.2.2 rfl (lv_at3 hl) ?_
          refine lv_iload_n hx hb gX12_deal_11.1 rfl (lv_at5 hl) ?_
          refine lv_iload_n hx hb gX12_deal_11.2.1 rfl (lv_at6 hl) ?_
          refine iV (wr := [(nw, iA G 1662 fnw), (nsh, iA G 4 fnsh), (nsf, iA G 4 fnsf)]) hC hK hl hP hD hS hA (m_dealt0 l G h0 x3 nw nk mhasKept nt mtaped nr mrowMany mroundOf mroundFrom mouts nm mfromHour mtoHour ns mfrom mto msort misFault mdeep mcoded mlines nl nc nF np ntr nb mbestCost nso nsi nit nsh nsf nss nrc 0 4 (nI jno) (fnw (1424 + 8 * jno + 0)) (fnw (1424 + 8 * jno + 4)) 0 fnrc (by omega) (by omega)) si_X12_372 [0, 4] [1, 2, 3] sm_0_4 fm_0_4 nd_0_4 sm_1_2_3 nd_1_2_3 dj_0_4__1_2_3 rfl rfl rfl rfl rfl (Nat.le_of_ble_eq_true rfl) rm_60_14_3 ⟨Nat.le_of_ble_eq_true rfl, Nat.le_of_ble_eq_true rfl⟩ gX12_deal_11.2.2.1 (fun r6322 => Ktu3 fun jr16324 ip16325 gtrc6326 => ?_)
          intro H locs hr6322 hP hD hS
          try dsimp only at hr6322
          refine Kpdr (ws := [(nw, iA G 1662 fnw), (nsh, iA G 4 fnsh), (nsf, iA G 4 fnsf), (h0, oX12 nw nk mhasKept nt mtaped nr mrowMany mroundOf mroundFrom mouts nm mfromHour mtoHour ns mfrom mto msort misFault mdeep mcoded mlines nl nc nF np ntr nb mbestCost nso nsi nit nsh nsf nss nrc (nI jr16324) 4 (nI jno) (fnw (1424 + 8 * jno + 0)) (fnw (1424 + 8 * jno + 4)) ip16325), (nrc, iA G 30 gtrc6326)]) hP hD (fun hP hD => ?_)
          obtain ⟨hr6322, w6327⟩ := hr6322
          refine lv_istore (lv' := [(7, .int r6322), (6, .int 1), (5, .int 0), (4, .int 4), (0, .ref h0), (1, .int (nI jt)), (2, .int 0), (3, .int x3)]) hx hb gX12_deal_11.2.2.2.1 hl (by decide) rfl (fun ls hl => ?_)
          refine lv_aload_n hx hb gX12_deal_11.2.2.2.2.1 rfl (lv_at4 hl) ?_
          refine gf_X12_380 hC rfl hK hP 3 rfl rfl gX12_deal_11.2.2.2.2.2.1 ?_
          refine lv_if_eq (tgt := 222) hx hb gX12_deal_11.2.2.2.2.2.2.1 (by decide) (fun c_214_6328 => ?_) (fun c_214_6328 => ?_)
          · refine lv_iload hx hb gX12_deal_11.2.2.2.2.2.2.2.2.2 (lv_at0 hl) ?_
            refine toQ hQ0 ?_
            exact RI (v := r6322) hC hP hD hS [3, 0, 1, 2, 4] (jr16324, 4, nI jno, fnw (1424 + 8 * jno + 0), fnw (1424 + 8 * jno + 4), ip16325, gtrc6326) rfl rfl (by decide) (⟨trivial, by omega⟩) rfl gX12_deal_12
          · refine lv_bipush (v := (-15)) hx hb gX12_deal_11.2.2.2.2.2.2.2.1 (by decide) ?_
            refine lv_goto (tgt := 224) hx hb gX12_deal_11.2.2.2.2.2.2.2.2.1 (by decide) ?_
            refine toQ hQ0 ?_
            exact RI (v := (-15)) hC hP hD hS [3, 0, 1, 2, 4] (jr16324, 4, nI jno, fnw (1424 + 8 * jno + 0), fnw (1424 + 8 * jno + 4), ip16325, gtrc6326) rfl rfl (by decide) (⟨trivial, by omega⟩) rfl gX12_deal_12
        · refine lv_aload_n hx hb gX12_deal_10.2.2.2.2.2.2.2.2.2 rfl (lv_at3 hl) ?_
          refine lv_iload_n hx hb gX12_deal_11.1 rfl (lv_at5 hl) ?_
          refine lv_iload_n hx hb gX12_deal_11.2.1 rfl (lv_at6 hl) ?_
          refine iV (wr := [(nw, iA G 1662 fnw), (nsh, iA G 4 fnsh), (nsf, iA G 4 fnsf)]) hC hK hl hP hD hS hA (m_dealt1 l G h0 x3 nw nk mhasKept nt mtaped nr mrowMany mroundOf mroundFrom mouts nm mfromHour mtoHour ns mfrom mto msort misFault mdeep mcoded mlines nl nc nF np ntr nb mbestCost nso nsi nit nsh nsf nss nrc 0 4 (nI jno) (fnw (1424 + 8 * jno + 0)) (fnw (1424 + 8 * jno + 4)) 0 fnrc (by omega) (by omega)) si_X12_372 [0, 4] [1, 2, 3] sm_0_4 fm_0_4 nd_0_4 sm_1_2_3 nd_1_2_3 dj_0_4__1_2_3 rfl rfl rfl rfl rfl (Nat.le_of_ble_eq_true rfl) rm_60_26_3 ⟨Nat.le_of_ble_eq_true rfl, Nat.le_of_ble_eq_true rfl⟩ gX12_deal_11.2.2.1 (fun r6329 => Ktu3 fun jr16331 ip16332 gtrc6333 => ?_)
          intro H locs hr6329 hP hD hS
          try dsimp only at hr6329
          refine Kpdr (ws := [(nw, iA G 1662 fnw), (nsh, iA G 4 fnsh), (nsf, iA G 4 fnsf), (h0, oX12 nw nk mhasKept nt mtaped nr mrowMany mroundOf mroundFrom mouts nm mfromHour mtoHour ns mfrom mto msort misFault mdeep mcoded mlines nl nc nF np ntr nb mbestCost nso nsi nit nsh nsf nss nrc (nI jr16331) 4 (nI jno) (fnw (1424 + 8 * jno + 0)) (fnw (1424 + 8 * jno + 4)) ip16332), (nrc, iA G 30 gtrc6333)]) hP hD (fun hP hD => ?_)
          obtain ⟨hr6329, w6334⟩ := hr6329
          refine lv_istore (lv' := [(7, .int r6329), (6, .int 1), (5, .int 0), (4, .int 4), (0, .ref h0), (1, .int (nI jt)), (2, .int 1), (3, .int x3)]) hx hb gX12_deal_11.2.2.2.1 hl (by decide) rfl (fun ls hl => ?_)
          refine lv_aload_n hx hb gX12_deal_11.2.2.2.2.1 rfl (lv_at4 hl) ?_
          refine gf_X12_380 hC rfl hK hP 3 rfl rfl gX12_deal_11.2.2.2.2.2.1 ?_
          refine lv_if_eq (tgt := 222) hx hb gX12_deal_11.2.2.2.2.2.2.1 (by decide) (fun c_214_6335 => ?_) (fun c_214_6335 => ?_)
          · refine lv_iload hx hb gX12_deal_11.2.2.2.2.2.2.2.2.2 (lv_at0 hl) ?_
            refine toQ hQ0 ?_
            exact RI (v := r6329) hC hP hD hS [3, 0, 1, 2, 4] (jr16331, 4, nI jno, fnw (1424 + 8 * jno + 0), fnw (1424 + 8 * jno + 4), ip16332, gtrc6333) rfl rfl (by decide) (⟨trivial, by omega⟩) rfl gX12_deal_12
          · refine lv_bipush (v := (-15)) hx hb gX12_deal_11.2.2.2.2.2.2.2.1 (by decide) ?_
            refine lv_goto (tgt := 224) hx hb gX12_deal_11.2.2.2.2.2.2.2.2.1 (by decide) ?_
            refine toQ hQ0 ?_
            exact RI (v := (-15)) hC hP hD hS [3, 0, 1, 2, 4] (jr16331, 4, nI jno, fnw (1424 + 8 * jno + 0), fnw (1424 + 8 * jno + 4), ip16332, gtrc6333) rfl rfl (by decide) (⟨trivial, by omega⟩) rfl gX12_deal_12
        · refine lv_aload_n hx hb gX12_deal_10.2.2.2.2.2.2.2.2.2 rfl (lv_at3 hl) ?_
          refine lv_iload_n hx hb gX12_deal_11.1 rfl (lv_at5 hl) ?_
          refine lv_iload_n hx hb gX12_deal_11.2.1 rfl (lv_at6 hl) ?_
          refine iV (wr := [(nw, iA G 1662 fnw), (nsh, iA G 4 fnsh), (nsf, iA G 4 fnsf)]) hC hK hl hP hD hS hA (m_dealt2 l G h0 x3 nw nk mhasKept nt mtaped nr mrowMany mroundOf mroundFrom mouts nm mfromHour mtoHour ns mfrom mto msort misFault mdeep mcoded mlines nl nc nF np ntr nb mbestCost nso nsi nit nsh nsf nss nrc 0 4 (nI jno) (fnw (1424 + 8 * jno + 0)) (fnw (1424 + 8 * jno + 4)) 0 fnrc (by omega) (by omega)) si_X12_372 [0, 4] [1, 2, 3] sm_0_4 fm_0_4 nd_0_4 sm_1_2_3 nd_1_2_3 dj_0_4__1_2_3 rfl rfl rfl rfl rfl (Nat.le_of_ble_eq_true rfl) rm_60_38_3 ⟨Nat.le_of_ble_eq_true rfl, Nat.le_of_ble_eq_true rfl⟩ gX12_deal_11.2.2.1 (fun r6336 => Ktu3 fun jr16338 ip16339 gtrc6340 => ?_)
          intro H locs hr6336 hP hD hS
          try dsimp only at hr6336
          refine Kpdr (ws := [(nw, iA G 1662 fnw), (nsh, iA G 4 fnsh), (nsf, iA G 4 fnsf), (h0, oX12 nw nk mhasKept nt mtaped nr mrowMany mroundOf mroundFrom mouts nm mfromHour mtoHour ns mfrom mto msort misFault mdeep mcoded mlines nl nc nF np ntr nb mbestCost nso nsi nit nsh nsf nss nrc (nI jr16338) 4 (nI jno) (fnw (1424 + 8 * jno + 0)) (fnw (1424 + 8 * jno + 4)) ip16339), (nrc, iA G 30 gtrc6340)]) hP hD (fun hP hD => ?_)
          obtain ⟨hr6336, w6341⟩ := hr6336
          refine lv_istore (lv' := [(7, .int r6336), (6, .int 1), (5, .int 0), (4, .int 4), (0, .ref h0), (1, .int (nI jt)), (2, .int 2), (3, .int x3)]) hx hb gX12_deal_11.2.2.2.1 hl (by decide) rfl (fun ls hl => ?_)
          refine lv_aload_n hx hb gX12_deal_11.2.2.2.2.1 rfl (lv_at4 hl) ?_
          refine gf_X12_380 hC rfl hK hP 3 rfl rfl gX12_deal_11.2.2.2.2.2.1 ?_
          refine lv_if_eq (tgt := 222) hx hb gX12_deal_11.2.2.2.2.2.2.1 (by decide) (fun c_214_6342 => ?_) (fun c_214_6342 => ?_)
          · refine lv_iload hx hb gX12_deal_11.2.2.2.2.2.2.2.2.2 (lv_at0 hl) ?_
            refine toQ hQ0 ?_
            exact RI (v := r6336) hC hP hD hS [3, 0, 1, 2, 4] (jr16338, 4, nI jno, fnw (1424 + 8 * jno + 0), fnw (1424 + 8 * jno + 4), ip16339, gtrc6340) rfl rfl (by decide) (⟨trivial, by omega⟩) rfl gX12_deal_12
          · refine lv_bipush (v := (-15)) hx hb gX12_deal_11.2.2.2.2.2.2.2.1 (by decide) ?_
            refine lv_goto (tgt := 224) hx hb gX12_deal_11.2.2.2.2.2.2.2.2.1 (by decide) ?_
            refine toQ hQ0 ?_
            exact RI (v := (-15)) hC hP hD hS [3, 0, 1, 2, 4] (jr16338, 4, nI jno, fnw (1424 + 8 * jno + 0), fnw (1424 + 8 * jno + 4), ip16339, gtrc6340) rfl rfl (by decide) (⟨trivial, by omega⟩) rfl gX12_deal_12
        · refine lv_aload_n hx hb gX12_deal_10.2.2.2.2.2.2.2.2.2 rfl (lv_at3 hl) ?_
          refine lv_iload_n hx hb gX12_deal_11.1 rfl (lv_at5 hl) ?_
          refine lv_iload_n hx hb gX12_deal_11.2.1 rfl (lv_at6 hl) ?_
          refine iV (wr := [(nw, iA G 1662 fnw), (nsh, iA G 4 fnsh), (nsf, iA G 4 fnsf)]) hC hK hl hP hD hS hA (m_dealt3 l G h0 x3 nw nk mhasKept nt mtaped nr mrowMany mroundOf mroundFrom mouts nm mfromHour mtoHour ns mfrom mto msort misFault mdeep mcoded mlines nl nc nF np ntr nb mbestCost nso nsi nit nsh nsf nss nrc 0 4 (nI jno) (fnw (1424 + 8 * jno + 0)) (fnw (1424 + 8 * jno + 4)) 0 fnrc (by omega) (by omega)) si_X12_372 [0, 4] [1, 2, 3] sm_0_4 fm_0_4 nd_0_4 sm_1_2_3 nd_1_2_3 dj_0_4__1_2_3 rfl rfl rfl rfl rfl (Nat.le_of_ble_eq_true rfl) rm_60_50_3 ⟨Nat.le_of_ble_eq_true rfl, Nat.le_of_ble_eq_true rfl⟩ gX12_deal_11.2.2.1 (fun r6343 => Ktu3 fun jr16345 ip16346 gtrc6347 => ?_)
          intro H locs hr6343 hP hD hS
          try dsimp only at hr6343
          refine Kpdr (ws := [(nw, iA G 1662 fnw), (nsh, iA G 4 fnsh), (nsf, iA G 4 fnsf), (h0, oX12 nw nk mhasKept nt mtaped nr mrowMany mroundOf mroundFrom mouts nm mfromHour mtoHour ns mfrom mto msort misFault mdeep mcoded mlines nl nc nF np ntr nb mbestCost nso nsi nit nsh nsf nss nrc (nI jr16345) 4 (nI jno) (fnw (1424 + 8 * jno + 0)) (fnw (1424 + 8 * jno + 4)) ip16346), (nrc, iA G 30 gtrc6347)]) hP hD (fun hP hD => ?_)
          obtain ⟨hr6343, w6348⟩ := hr6343
          refine lv_istore (lv' := [(7, .int r6343), (6, .int 1), (5, .int 0), (4, .int 4), (0, .ref h0), (1, .int (nI jt)), (2, .int 3), (3, .int x3)]) hx hb gX12_deal_11.2.2.2.1 hl (by decide) rfl (fun ls hl => ?_)
          refine lv_aload_n hx hb gX12_deal_11.2.2.2.2.1 rfl (lv_at4 hl) ?_
          refine gf_X12_380 hC rfl hK hP 3 rfl rfl gX12_deal_11.2.2.2.2.2.1 ?_
          refine lv_if_eq (tgt := 222) hx hb gX12_deal_11.2.2.2.2.2.2.1 (by decide) (fun c_214_6349 => ?_) (fun c_214_6349 => ?_)
          · refine lv_iload hx hb gX12_deal_11.2.2.2.2.2.2.2.2.2 (lv_at0 hl) ?_
            refine toQ hQ0 ?_
            exact RI (v := r6343) hC hP hD hS [3, 0, 1, 2, 4] (jr16345, 4, nI jno, fnw (1424 + 8 * jno + 0), fnw (1424 + 8 * jno + 4), ip16346, gtrc6347) rfl rfl (by decide) (⟨trivial, by omega⟩) rfl gX12_deal_12
          · refine lv_bipush (v := (-15)) hx hb gX12_deal_11.2.2.2.2.2.2.2.1 (by decide) ?_
            refine lv_goto (tgt := 224) hx hb gX12_deal_11.2.2.2.2.2.2.2.2.1 (by decide) ?_
            refine toQ hQ0 ?_
            exact RI (v := (-15)) hC hP hD hS [3, 0, 1, 2, 4] (jr16345, 4, nI jno, fnw (1424 + 8 * jno + 0), fnw (1424 + 8 * jno + 4), ip16346, gtrc6347) rfl rfl (by decide) (⟨trivial, by omega⟩) rfl gX12_deal_12
      · refine lv_istore (lv' := [(4, .int 5), (0, .ref h0), (1, .int (nI jt)), (2, .int x2), (3, .int x3)]) hx hb gX12_deal_1.2.2.2.2.1 hl (by decide) rfl (fun ls hl => ?_)
        refine lv_iload hx hb gX12_deal_1.2.2.2.2.2.1 (lv_at0 hl) ?_
        refine lv_if_ge (tgt := 37) hx hb gX12_deal_1.2.2.2.2.2.2.1 (by decide) (fun _ => ?_) (fun c9 => absurd (by decide) c9)
        refine lv_aload_n hx hb gX12_deal_1.2.2.2.2.2.2.2.2.2 rfl (lv_at1 hl) ?_
        refine lv_iload hx hb gX12_deal_2.1 (lv_at0 hl) ?_
        refine pf_X12_354 hC rfl hK hP hD hS 0 (ws' := [(h0, oX12 nw nk mhasKept nt mtaped nr mrowMany mroundOf mroundFrom mouts nm mfromHour mtoHour ns mfrom mto msort misFault mdeep mcoded mlines nl nc nF np ntr nb mbestCost nso nsi nit nsh nsf nss nrc 0 5 mnumber mwhose msize misParted), (nw, iA G 1662 fnw), (nsh, iA G 4 fnsh), (nsf, iA G 4 fnsf), (nrc, iA G 30 fnrc)]) rfl (Nat.le_of_ble_eq_true rfl) rfl rfl rfl gX12_deal_2.2.1 (fun H locs hP hD hS => ?_)
        refine lv_aload_n hx hb gX12_deal_2.2.2.1 rfl (lv_at1 hl) ?_
        refine lv_aload_n hx hb gX12_deal_2.2.2.2.1 rfl (lv_at1 hl) ?_
        refine gf_X12_75 hC rfl hK hP 0 rfl rfl gX12_deal_2.2.2.2.2.1 ?_
        refine lv_iload_n hx hb gX12_deal_2.2.2.2.2.2.1 rfl (lv_at2 hl) ?_
        refine aldN hC hK hP 3 rfl (k := jt) (by omega) (Nat.le_of_ble_eq_true rfl) (v := fnsf jt) rfl gX12_deal_2.2.2.2.2.2.2.1 ?_
        refine lv_topi (fun x6350 ex6350 => ?_)
        obtain ⟨hko9, jno, hjno, ejno⟩ := a6209
        refine eqi (x1 := nI jno) (ex6350.trans ejno) ?_
        refine pf_X12_378 hC rfl hK hP hD hS 0 (ws' := [(h0, oX12 nw nk mhasKept nt mtaped nr mrowMany mroundOf mroundFrom mouts nm mfromHour mtoHour ns mfrom mto msort misFault mdeep mcoded mlines nl nc nF np ntr nb mbestCost nso nsi nit nsh nsf nss nrc 0 5 (nI jno) mwhose msize misParted), (nw, iA G 1662 fnw), (nsh, iA G 4 fnsh), (nsf, iA G 4 fnsf), (nrc, iA G 30 fnrc)]) rfl (Nat.le_of_ble_eq_true rfl) rfl rfl rfl gX12_deal_2.2.2.2.2.2.2.2.1 (fun H locs hP hD hS => ?_)
        refine lv_aload_n hx hb gX12_deal_2.2.2.2.2.2.2.2.2.1 rfl (lv_at1 hl) ?_
        refine gf_X12_72 hC rfl hK hP 0 rfl rfl gX12_deal_2.2.2.2.2.2.2.2.2.2 ?_
        refine lv_iload_n hx hb gX12_deal_3.1 rfl (lv_at2 hl) ?_
        refine aldN hC hK hP 2 rfl (k := jt) (by omega) (Nat.le_of_ble_eq_true rfl) (v := fnsh jt) rfl gX12_deal_3.2.1 ?_
        refine lv_topi (fun x6351 ex6351 => ?_)
        refine lv_iconst (v := 1) hx hb gX12_deal_3.2.2.1 (by decide) ?_
        refine lv_icmp_ne (tgt := 67) hx hb gX12_deal_3.2.2.2.1 (by decide) (fun _ => ?_) (fun c9 => absurd c9 (fun h9 => absurd (hko9.symm.trans ((ex6351.symm).trans h9)) (by decide)))
        refine lv_iconst (v := 0) hx hb gX12_deal_3.2.2.2.2.2.2.1 (by decide) ?_
        refine lv_istore (lv' := [(5, .int 0), (4, .int 5), (0, .ref h0), (1, .int (nI jt)), (2, .int x2), (3, .int x3)]) hx hb gX12_deal_3.2.2.2.2.2.2.2.1 hl (by decide) rfl (fun ls hl => ?_)
        refine lv_aload_n hx hb gX12_deal_3.2.2.2.2.2.2.2.2.1 rfl (lv_at2 hl) ?_
        refine gf_X12_72 hC rfl hK hP 0 rfl rfl gX12_deal_3.2.2.2.2.2.2.2.2.2 ?_
        refine lv_iload_n hx hb gX12_deal_4.1 rfl (lv_at3 hl) ?_
        refine aldN hC hK hP 2 rfl (k := jt) (by omega) (Nat.le_of_ble_eq_true rfl) (v := fnsh jt) rfl gX12_deal_4.2.1 ?_
        refine lv_topi (fun x6352 ex6352 => ?_)
        refine lv_iconst (v := 2) hx hb gX12_deal_4.2.2.1 (by decide) ?_
        refine lv_icmp_ne (tgt := 84) hx hb gX12_deal_4.2.2.2.1 (by decide) (fun c9 => absurd (ex6352.trans hko9) c9) (fun _ => ?_)
        refine lv_iconst (v := 1) hx hb gX12_deal_4.2.2.2.2.1 (by decide) ?_
        refine lv_goto (tgt := 85) hx hb gX12_deal_4.2.2.2.2.2.1 (by decide) ?_
        refine lv_istore (lv' := [(6, .int 1), (5, .int 0), (4, .int 5), (0, .ref h0), (1, .int (nI jt)), (2, .int x2), (3, .int x3)]) hx hb gX12_deal_4.2.2.2.2.2.2.2.1 hl (by decide) rfl (fun ls hl => ?_)
        refine lv_aload_n hx hb gX12_deal_4.2.2.2.2.2.2.2.2.1 rfl (lv_at3 hl) ?_
        refine lv_iload hx hb gX12_deal_4.2.2.2.2.2.2.2.2.2 (lv_at1 hl) ?_
        refine lv_if_eq (tgt := 105) hx hb gX12_deal_5.1 (by decide) (fun _ => ?_) (fun c9 => absurd (by decide) c9)
        refine lv_iload hx hb gX12_deal_5.2.2.2.2.2.2.2.1 (lv_at0 hl) ?_
        refine lv_if_eq (tgt := 122) hx hb gX12_deal_5.2.2.2.2.2.2.2.2.1 (by decide) (fun c9 => absurd c9 (by decide)) (fun _ => ?_)
        refine lv_aload_n hx hb gX12_deal_5.2.2.2.2.2.2.2.2.2 rfl (lv_at3 hl) ?_
        refine lv_aload_n hx hb gX12_deal_6.1 rfl (lv_at3 hl) ?_
        refine gf_X12_378 hC rfl hK hP 0 rfl rfl gX12_deal_6.2.1 ?_
        refine lv_iconst (v := 0) hx hb gX12_deal_6.2.2.1 (by decide) ?_
        refine pV hC hK hl hP hD (m_saying l G h0 jno 0 nw nk mhasKept nt mtaped nr mrowMany mroundOf mroundFrom mouts nm mfromHour mtoHour ns mfrom mto msort misFault mdeep mcoded mlines nl nc nF np ntr nb mbestCost nso nsi nit nsh nsf nss nrc 0 5 (nI jno) mwhose msize misParted fnw (by omega) (by omega)) si_X12_114 [0, 1] sm_0_1 fm_0_1 nd_0_1 rfl rfl rfl rfl rfl (Nat.le_of_ble_eq_true rfl) rm_60_1_3 ⟨by first | exact Nat.le_of_ble_eq_true rfl | exact Nat.zero_le _, by first | exact Nat.le_of_ble_eq_true rfl | exact Nat.zero_le _⟩ gX12_deal_6.2.2.2.1 (Keqr ?_)
        refine lv_goto (tgt := 139) hx hb gX12_deal_6.2.2.2.2.1 (by decide) ?_
        refine pf_X12_375 hC rfl hK hP hD hS 0 (ws' := [(h0, oX12 nw nk mhasKept nt mtaped nr mrowMany mroundOf mroundFrom mouts nm mfromHour mtoHour ns mfrom mto msort misFault mdeep mcoded mlines nl nc nF np ntr nb mbestCost nso nsi nit nsh nsf nss nrc 0 5 (nI jno) (fnw (1424 + 8 * jno + 0)) msize misParted), (nw, iA G 1662 fnw), (nsh, iA G 4 fnsh), (nsf, iA G 4 fnsf), (nrc, iA G 30 fnrc)]) rfl (Nat.le_of_ble_eq_true rfl) rfl rfl rfl gX12_deal_7.2.2.2.2.2.2.1 (fun H locs hP hD hS => ?_)
        refine lv_aload_n hx hb gX12_deal_7.2.2.2.2.2.2.2.1 rfl (lv_at3 hl) ?_
        refine lv_iload hx hb gX12_deal_7.2.2.2.2.2.2.2.2.1 (lv_at1 hl) ?_
        refine lv_if_eq (tgt := 160) hx hb gX12_deal_7.2.2.2.2.2.2.2.2.2 (by decide) (fun _ => ?_) (fun c9 => absurd (by decide) c9)
        refine lv_iload hx hb gX12_deal_8.2.2.2.2.2.2.1 (lv_at0 hl) ?_
        refine lv_if_eq (tgt := 177) hx hb gX12_deal_8.2.2.2.2.2.2.2.1 (by decide) (fun c9 => absurd c9 (by decide)) (fun _ => ?_)
        refine lv_aload_n hx hb gX12_deal_8.2.2.2.2.2.2.2.2.1 rfl (lv_at3 hl) ?_
        refine lv_aload_n hx hb gX12_deal_8.2.2.2.2.2.2.2.2.2 rfl (lv_at3 hl) ?_
        refine gf_X12_378 hC rfl hK hP 0 rfl rfl gX12_deal_9.1 ?_
        refine lv_iconst (v := 4) hx hb gX12_deal_9.2.1 (by decide) ?_
        refine pV hC hK hl hP hD (m_saying l G h0 jno 4 nw nk mhasKept nt mtaped nr mrowMany mroundOf mroundFrom mouts nm mfromHour mtoHour ns mfrom mto msort misFault mdeep mcoded mlines nl nc nF np ntr nb mbestCost nso nsi nit nsh nsf nss nrc 0 5 (nI jno) (fnw (1424 + 8 * jno + 0)) msize misParted fnw (by omega) (by omega)) si_X12_114 [0, 1] sm_0_1 fm_0_1 nd_0_1 rfl rfl rfl rfl rfl (Nat.le_of_ble_eq_true rfl) rm_60_1_3 ⟨by first | exact Nat.le_of_ble_eq_true rfl | exact Nat.zero_le _, by first | exact Nat.le_of_ble_eq_true rfl | exact Nat.zero_le _⟩ gX12_deal_9.2.2.1 (Keqr ?_)
        refine lv_goto (tgt := 194) hx hb gX12_deal_9.2.2.2.1 (by decide) ?_
        refine pf_X12_369 hC rfl hK hP hD hS 0 (ws' := [(h0, oX12 nw nk mhasKept nt mtaped nr mrowMany mroundOf mroundFrom mouts nm mfromHour mtoHour ns mfrom mto msort misFault mdeep mcoded mlines nl nc nF np ntr nb mbestCost nso nsi nit nsh nsf nss nrc 0 5 (nI jno) (fnw (1424 + 8 * jno + 0)) (fnw (1424 + 8 * jno + 4)) misParted), (nw, iA G 1662 fnw), (nsh, iA G 4 fnsh), (nsf, iA G 4 fnsf), (nrc, iA G 30 fnrc)]) rfl (Nat.le_of_ble_eq_true rfl) rfl rfl rfl gX12_deal_10.2.2.2.2.2.1 (fun H locs hP hD hS => ?_)
        refine lv_aload_n hx hb gX12_deal_10.2.2.2.2.2.2.1 rfl (lv_at3 hl) ?_
        refine lv_iconst (v := 0) hx hb gX12_deal_10.2.2.2.2.2.2.2.1 (by decide) ?_
        refine pf_X12_380 hC rfl hK hP hD hS 0 (ws' := [(h0, oX12 nw nk mhasKept nt mtaped nr mrowMany mroundOf mroundFrom mouts nm mfromHour mtoHour ns mfrom mto msort misFault mdeep mcoded mlines nl nc nF np ntr nb mbestCost nso nsi nit nsh nsf nss nrc 0 5 (nI jno) (fnw (1424 + 8 * jno + 0)) (fnw (1424 + 8 * jno + 4)) 0), (nw, iA G 1662 fnw), (nsh, iA G 4 fnsh), (nsf, iA G 4 fnsf), (nrc, iA G 30 fnrc)]) rfl (Nat.le_of_ble_eq_true rfl) rfl (by decide +kernel) (by decide +kernel) gX12_deal_10.2.2.2.2.2.2.2.2.1 (fun H locs hP hD hS => ?_)
        obtain ⟨jdl, hjdl, rfl⟩ := Wi_nat (N := 3) (by decide) a6207
        rcases (show jdl = 0 ∨ jdl = 1 ∨ jdl = 2 ∨ jdl = 3 by omega) with rfl | rfl | rfl | rfl
        · refine lv_aload_n hx hb gX12_deal_10.2.2.2.2.2.2.2.2.2 rfl (lv_at3 hl) ?_
          refine lv_iload_n hx hb gX12_deal_11.1 rfl (lv_at5 hl) ?_
          refine lv_iload_n hx hb gX12_deal_11.2.1 rfl (lv_at6 hl) ?_
          refine iV (wr := [(nw, iA G 1662 fnw), (nsh, iA G 4 fnsh), (nsf, iA G 4 fnsf)]) hC hK hl hP hD hS hA (m_dealt0 l G h0 x3 nw nk mhasKept nt mtaped nr mrowMany mroundOf mroundFrom mouts nm mfromHour mtoHour ns mfrom mto msort misFault mdeep mcoded mlines nl nc nF np ntr nb mbestCost nso nsi nit nsh nsf nss nrc 0 5 (nI jno) (fnw (1424 + 8 * jno + 0)) (fnw (1424 + 8 * jno + 4)) 0 fnrc (by omega) (by omega)) si_X12_372 [0, 4] [1, 2, 3] sm_0_4 fm_0_4 nd_0_4 sm_1_2_3 nd_1_2_3 dj_0_4__1_2_3 rfl rfl rfl rfl rfl (Nat.le_of_ble_eq_true rfl) rm_60_14_3 ⟨Nat.le_of_ble_eq_true rfl, Nat.le_of_ble_eq_true rfl⟩ gX12_deal_11.2.2.1 (fun r6357 => Ktu3 fun jr16359 ip16360 gtrc6361 => ?_)
          intro H locs hr6357 hP hD hS
          try dsimp only at hr6357
          refine Kpdr (ws := [(nw, iA G 1662 fnw), (nsh, iA G 4 fnsh), (nsf, iA G 4 fnsf), (h0, oX12 nw nk mhasKept nt mtaped nr mrowMany mroundOf mroundFrom mouts nm mfromHour mtoHour ns mfrom mto msort misFault mdeep mcoded mlines nl nc nF np ntr nb mbestCost nso nsi nit nsh nsf nss nrc (nI jr16359) 5 (nI jno) (fnw (1424 + 8 * jno + 0)) (fnw (1424 + 8 * jno + 4)) ip16360), (nrc, iA G 30 gtrc6361)]) hP hD (fun hP hD => ?_)
          obtain ⟨hr6357, w6362⟩ := hr6357
          refine lv_istore (lv' := [(7, .int r6357), (6, .int 1), (5, .int 0), (4, .int 5), (0, .ref h0), (1, .int (nI jt)), (2, .int 0), (3, .int x3)]) hx hb gX12_deal_11.2.2.2.1 hl (by decide) rfl (fun ls hl => ?_)
          refine lv_aload_n hx hb gX12_deal_11.2.2.2.2.1 rfl (lv_at4 hl) ?_
          refine gf_X12_380 hC rfl hK hP 3 rfl rfl gX12_deal_11.2.2.2.2.2.1 ?_
          refine lv_if_eq (tgt := 222) hx hb gX12_deal_11.2.2.2.2.2.2.1 (by decide) (fun c_214_6363 => ?_) (fun c_214_6363 => ?_)
          · refine lv_iload hx hb gX12_deal_11.2.2.2.2.2.2.2.2.2 (lv_at0 hl) ?_
            refine toQ hQ0 ?_
            exact RI (v := r6357) hC hP hD hS [3, 0, 1, 2, 4] (jr16359, 5, nI jno, fnw (1424 + 8 * jno + 0), fnw (1424 + 8 * jno + 4), ip16360, gtrc6361) rfl rfl (by decide) (⟨trivial, by omega⟩) rfl gX12_deal_12
          · refine lv_bipush (v := (-15)) hx hb gX12_deal_11.2.2.2.2.2.2.2.1 (by decide) ?_
            refine lv_goto (tgt := 224) hx hb gX12_deal_11.2.2.2.2.2.2.2.2.1 (by decide) ?_
            refine toQ hQ0 ?_
            exact RI (v := (-15)) hC hP hD hS [3, 0, 1, 2, 4] (jr16359, 5, nI jno, fnw (1424 + 8 * jno + 0), fnw (1424 + 8 * jno + 4), ip16360, gtrc6361) rfl rfl (by decide) (⟨trivial, by omega⟩) rfl gX12_deal_12
        · refine lv_aload_n hx hb gX12_deal_10.2.2.2.2.2.2.2.2.2 rfl (lv_at3 hl) ?_
          refine lv_iload_n hx hb gX12_deal_11.1 rfl (lv_at5 hl) ?_
          refine lv_iload_n hx hb gX12_deal_11.2.1 rfl (lv_at6 hl) ?_
          refine iV (wr := [(nw, iA G 1662 fnw), (nsh, iA G 4 fnsh), (nsf, iA G 4 fnsf)]) hC hK hl hP hD hS hA (m_dealt1 l G h0 x3 nw nk mhasKept nt mtaped nr mrowMany mroundOf mroundFrom mouts nm mfromHour mtoHour ns mfrom mto msort misFault mdeep mcoded mlines nl nc nF np ntr nb mbestCost nso nsi nit nsh nsf nss nrc 0 5 (nI jno) (fnw (1424 + 8 * jno + 0)) (fnw (1424 + 8 * jno + 4)) 0 fnrc (by omega) (by omega)) si_X12_372 [0, 4] [1, 2, 3] sm_0_4 fm_0_4 nd_0_4 sm_1_2_3 nd_1_2_3 dj_0_4__1_2_3 rfl rfl rfl rfl rfl (Nat.le_of_ble_eq_true rfl) rm_60_26_3 ⟨Nat.le_of_ble_eq_true rfl, Nat.le_of_ble_eq_true rfl⟩ gX12_deal_11.2.2.1 (fun r6364 => Ktu3 fun jr16366 ip16367 gtrc6368 => ?_)
          intro H locs hr6364 hP hD hS
          try dsimp only at hr6364
          refine Kpdr (ws := [(nw, iA G 1662 fnw), (nsh, iA G 4 fnsh), (nsf, iA G 4 fnsf), (h0, oX12 nw nk mhasKept nt mtaped nr mrowMany mroundOf mroundFrom mouts nm mfromHour mtoHour ns mfrom mto msort misFault mdeep mcoded mlines nl nc nF np ntr nb mbestCost nso nsi nit nsh nsf nss nrc (nI jr16366) 5 (nI jno) (fnw (1424 + 8 * jno + 0)) (fnw (1424 + 8 * jno + 4)) ip16367), (nrc, iA G 30 gtrc6368)]) hP hD (fun hP hD => ?_)
          obtain ⟨hr6364, w6369⟩ := hr6364
          refine lv_istore (lv' := [(7, .int r6364), (6, .int 1), (5, .int 0), (4, .int 5), (0, .ref h0), (1, .int (nI jt)), (2, .int 1), (3, .int x3)]) hx hb gX12_deal_11.2.2.2.1 hl (by decide) rfl (fun ls hl => ?_)
          refine lv_aload_n hx hb gX12_deal_11.2.2.2.2.1 rfl (lv_at4 hl) ?_
          refine gf_X12_380 hC rfl hK hP 3 rfl rfl gX12_deal_11.2.2.2.2.2.1 ?_
          refine lv_if_eq (tgt := 222) hx hb gX12_deal_11.2.2.2.2.2.2.1 (by decide) (fun c_214_6370 => ?_) (fun c_214_6370 => ?_)
          · refine lv_iload hx hb gX12_deal_11.2.2.2.2.2.2.2.2.2 (lv_at0 hl) ?_
            refine toQ hQ0 ?_
            exact RI (v := r6364) hC hP hD hS [3, 0, 1, 2, 4] (jr16366, 5, nI jno, fnw (1424 + 8 * jno + 0), fnw (1424 + 8 * jno + 4), ip16367, gtrc6368) rfl rfl (by decide) (⟨trivial, by omega⟩) rfl gX12_deal_12
          · refine lv_bipush (v := (-15)) hx hb gX12_deal_11.2.2.2.2.2.2.2.1 (by decide) ?_
            refine lv_goto (tgt := 224) hx hb gX12_deal_11.2.2.2.2.2.2.2.2.1 (by decide) ?_
            refine toQ hQ0 ?_
            exact RI (v := (-15)) hC hP hD hS [3, 0, 1, 2, 4] (jr16366, 5, nI jno, fnw (1424 + 8 * jno + 0), fnw (1424 + 8 * jno + 4), ip16367, gtrc6368) rfl rfl (by decide) (⟨trivial, by omega⟩) rfl gX12_deal_12
        · refine lv_aload_n hx hb gX12_deal_10.2.2.2.2.2.2.2.2.2 rfl (lv_at3 hl) ?_
          refine lv_iload_n hx hb gX12_deal_11.1 rfl (lv_at5 hl) ?_
          refine lv_iload_n hx hb gX12_deal_11.2.1 rfl (lv_at6 hl) ?_
          refine iV (wr := [(nw, iA G 1662 fnw), (nsh, iA G 4 fnsh), (nsf, iA G 4 fnsf)]) hC hK hl hP hD hS hA (m_dealt2 l G h0 x3 nw nk mhasKept nt mtaped nr mrowMany mroundOf mroundFrom mouts nm mfromHour mtoHour ns mfrom mto msort misFault mdeep mcoded mlines nl nc nF np ntr nb mbestCost nso nsi nit nsh nsf nss nrc 0 5 (nI jno) (fnw (1424 + 8 * jno + 0)) (fnw (1424 + 8 * jno + 4)) 0 fnrc (by omega) (by omega)) si_X12_372 [0, 4] [1, 2, 3] sm_0_4 fm_0_4 nd_0_4 sm_1_2_3 nd_1_2_3 dj_0_4__1_2_3 rfl rfl rfl rfl rfl (Nat.le_of_ble_eq_true rfl) rm_60_38_3 ⟨Nat.le_of_ble_eq_true rfl, Nat.le_of_ble_eq_true rfl⟩ gX12_deal_11.2.2.1 (fun r6371 => Ktu3 fun jr16373 ip16374 gtrc6375 => ?_)
          intro H locs hr6371 hP hD hS
          try dsimp only at hr6371
          refine Kpdr (ws := [(nw, iA G 1662 fnw), (nsh, iA G 4 fnsh), (nsf, iA G 4 fnsf), (h0, oX12 nw nk mhasKept nt mtaped nr mrowMany mroundOf mroundFrom mouts nm mfromHour mtoHour ns mfrom mto msort misFault mdeep mcoded mlines nl nc nF np ntr nb mbestCost nso nsi nit nsh nsf nss nrc (nI jr16373) 5 (nI jno) (fnw (1424 + 8 * jno + 0)) (fnw (1424 + 8 * jno + 4)) ip16374), (nrc, iA G 30 gtrc6375)]) hP hD (fun hP hD => ?_)
          obtain ⟨hr6371, w6376⟩ := hr6371
          refine lv_istore (lv' := [(7, .int r6371), (6, .int 1), (5, .int 0), (4, .int 5), (0, .ref h0), (1, .int (nI jt)), (2, .int 2), (3, .int x3)]) hx hb gX12_deal_11.2.2.2.1 hl (by decide) rfl (fun ls hl => ?_)
          refine lv_aload_n hx hb gX12_deal_11.2.2.2.2.1 rfl (lv_at4 hl) ?_
          refine gf_X12_380 hC rfl hK hP 3 rfl rfl gX12_deal_11.2.2.2.2.2.1 ?_
          refine lv_if_eq (tgt := 222) hx hb gX12_deal_11.2.2.2.2.2.2.1 (by decide) (fun c_214_6377 => ?_) (fun c_214_6377 => ?_)
          · refine lv_iload hx hb gX12_deal_11.2.2.2.2.2.2.2.2.2 (lv_at0 hl) ?_
            refine toQ hQ0 ?_
            exact RI (v := r6371) hC hP hD hS [3, 0, 1, 2, 4] (jr16373, 5, nI jno, fnw (1424 + 8 * jno + 0), fnw (1424 + 8 * jno + 4), ip16374, gtrc6375) rfl rfl (by decide) (⟨trivial, by omega⟩) rfl gX12_deal_12
          · refine lv_bipush (v := (-15)) hx hb gX12_deal_11.2.2.2.2.2.2.2.1 (by decide) ?_
            refine lv_goto (tgt := 224) hx hb gX12_deal_11.2.2.2.2.2.2.2.2.1 (by decide) ?_
            refine toQ hQ0 ?_
            exact RI (v := (-15)) hC hP hD hS [3, 0, 1, 2, 4] (jr16373, 5, nI jno, fnw (1424 + 8 * jno + 0), fnw (1424 + 8 * jno + 4), ip16374, gtrc6375) rfl rfl (by decide) (⟨trivial, by omega⟩) rfl gX12_deal_12
        · refine lv_aload_n hx hb gX12_deal_10.2.2.2.2.2.2.2.2.2 rfl (lv_at3 hl) ?_
          refine lv_iload_n hx hb gX12_deal_11.1 rfl (lv_at5 hl) ?_
          refine lv_iload_n hx hb gX12_deal_11.2.1 rfl (lv_at6 hl) ?_
          refine iV (wr := [(nw, iA G 1662 fnw), (nsh, iA G 4 fnsh), (nsf, iA G 4 fnsf)]) hC hK hl hP hD hS hA (m_dealt3 l G h0 x3 nw nk mhasKept nt mtaped nr mrowMany mroundOf mroundFrom mouts nm mfromHour mtoHour ns mfrom mto msort misFault mdeep mcoded mlines nl nc nF np ntr nb mbestCost nso nsi nit nsh nsf nss nrc 0 5 (nI jno) (fnw (1424 + 8 * jno + 0)) (fnw (1424 + 8 * jno + 4)) 0 fnrc (by omega) (by omega)) si_X12_372 [0, 4] [1, 2, 3] sm_0_4 fm_0_4 nd_0_4 sm_1_2_3 nd_1_2_3 dj_0_4__1_2_3 rfl rfl rfl rfl rfl (Nat.le_of_ble_eq_true rfl) rm_60_50_3 ⟨Nat.le_of_ble_eq_true rfl, Nat.le_of_ble_eq_true rfl⟩ gX12_deal_11.2.2.1 (fun r6378 => Ktu3 fun jr16380 ip16381 gtrc6382 => ?_)
          intro H locs hr6378 hP hD hS
          try dsimp only at hr6378
          refine Kpdr (ws := [(nw, iA G 1662 fnw), (nsh, iA G 4 fnsh), (nsf, iA G 4 fnsf), (h0, oX12 nw nk mhasKept nt mtaped nr mrowMany mroundOf mroundFrom mouts nm mfromHour mtoHour ns mfrom mto msort misFault mdeep mcoded mlines nl nc nF np ntr nb mbestCost nso nsi nit nsh nsf nss nrc (nI jr16380) 5 (nI jno) (fnw (1424 + 8 * jno + 0)) (fnw (1424 + 8 * jno + 4)) ip16381), (nrc, iA G 30 gtrc6382)]) hP hD (fun hP hD => ?_)
          obtain ⟨hr6378, w6383⟩ := hr6378
          refine lv_istore (lv' := [(7, .int r6378), (6, .int 1), (5, .int 0), (4, .int 5), (0, .ref h0), (1, .int (nI jt)), (2, .int 3), (3, .int x3)]) hx hb gX12_deal_11.2.2.2.1 hl (by decide) rfl (fun ls hl => ?_)
          refine lv_aload_n hx hb gX12_deal_11.2.2.2.2.1 rfl (lv_at4 hl) ?_
          refine gf_X12_380 hC rfl hK hP 3 rfl rfl gX12_deal_11.2.2.2.2.2.1 ?_
          refine lv_if_eq (tgt := 222) hx hb gX12_deal_11.2.2.2.2.2.2.1 (by decide) (fun c_214_6384 => ?_) (fun c_214_6384 => ?_)
          · refine lv_iload hx hb gX12_deal_11.2.2.2.2.2.2.2.2.2 (lv_at0 hl) ?_
            refine toQ hQ0 ?_
            exact RI (v := r6378) hC hP hD hS [3, 0, 1, 2, 4] (jr16380, 5, nI jno, fnw (1424 + 8 * jno + 0), fnw (1424 + 8 * jno + 4), ip16381, gtrc6382) rfl rfl (by decide) (⟨trivial, by omega⟩) rfl gX12_deal_12
          · refine lv_bipush (v := (-15)) hx hb gX12_deal_11.2.2.2.2.2.2.2.1 (by decide) ?_
            refine lv_goto (tgt := 224) hx hb gX12_deal_11.2.2.2.2.2.2.2.2.1 (by decide) ?_
            refine toQ hQ0 ?_
            exact RI (v := (-15)) hC hP hD hS [3, 0, 1, 2, 4] (jr16380, 5, nI jno, fnw (1424 + 8 * jno + 0), fnw (1424 + 8 * jno + 4), ip16381, gtrc6382) rfl rfl (by decide) (⟨trivial, by omega⟩) rfl gX12_deal_12
      · refine lv_istore (lv' := [(4, .int 6), (0, .ref h0), (1, .int (nI jt)), (2, .int x2), (3, .int x3)]) hx hb gX12_deal_1.2.2.2.2.1 hl (by decide) rfl (fun ls hl => ?_)
        refine lv_iload hx hb gX12_deal_1.2.2.2.2.2.1 (lv_at0 hl) ?_
        refine lv_if_ge (tgt := 37) hx hb gX12_deal_1.2.2.2.2.2.2.1 (by decide) (fun _ => ?_) (fun c9 => absurd (by decide) c9)
        refine lv_aload_n hx hb gX12_deal_1.2.2.2.2.2.2.2.2.2 rfl (lv_at1 hl) ?_
        refine lv_iload hx hb gX12_deal_2.1 (lv_at0 hl) ?_
        refine pf_X12_354 hC rfl hK hP hD hS 0 (ws' := [(h0, oX12 nw nk mhasKept nt mtaped nr mrowMany mroundOf mroundFrom mouts nm mfromHour mtoHour ns mfrom mto msort misFault mdeep mcoded mlines nl nc nF np ntr nb mbestCost nso nsi nit nsh nsf nss nrc 0 6 mnumber mwhose msize misParted), (nw, iA G 1662 fnw), (nsh, iA G 4 fnsh), (nsf, iA G 4 fnsf), (nrc, iA G 30 fnrc)]) rfl (Nat.le_of_ble_eq_true rfl) rfl rfl rfl gX12_deal_2.2.1 (fun H locs hP hD hS => ?_)
        refine lv_aload_n hx hb gX12_deal_2.2.2.1 rfl (lv_at1 hl) ?_
        refine lv_aload_n hx hb gX12_deal_2.2.2.2.1 rfl (lv_at1 hl) ?_
        refine gf_X12_75 hC rfl hK hP 0 rfl rfl gX12_deal_2.2.2.2.2.1 ?_
        refine lv_iload_n hx hb gX12_deal_2.2.2.2.2.2.1 rfl (lv_at2 hl) ?_
        refine aldN hC hK hP 3 rfl (k := jt) (by omega) (Nat.le_of_ble_eq_true rfl) (v := fnsf jt) rfl gX12_deal_2.2.2.2.2.2.2.1 ?_
        refine lv_topi (fun x6385 ex6385 => ?_)
        obtain ⟨hko9, jno, hjno, ejno⟩ := a6209
        refine eqi (x1 := nI jno) (ex6385.trans ejno) ?_
        refine pf_X12_378 hC rfl hK hP hD hS 0 (ws' := [(h0, oX12 nw nk mhasKept nt mtaped nr mrowMany mroundOf mroundFrom mouts nm mfromHour mtoHour ns mfrom mto msort misFault mdeep mcoded mlines nl nc nF np ntr nb mbestCost nso nsi nit nsh nsf nss nrc 0 6 (nI jno) mwhose msize misParted), (nw, iA G 1662 fnw), (nsh, iA G 4 fnsh), (nsf, iA G 4 fnsf), (nrc, iA G 30 fnrc)]) rfl (Nat.le_of_ble_eq_true rfl) rfl rfl rfl gX12_deal_2.2.2.2.2.2.2.2.1 (fun H locs hP hD hS => ?_)
        refine lv_aload_n hx hb gX12_deal_2.2.2.2.2.2.2.2.2.1 rfl (lv_at1 hl) ?_
        refine gf_X12_72 hC rfl hK hP 0 rfl rfl gX12_deal_2.2.2.2.2.2.2.2.2.2 ?_
        refine lv_iload_n hx hb gX12_deal_3.1 rfl (lv_at2 hl) ?_
        refine aldN hC hK hP 2 rfl (k := jt) (by omega) (Nat.le_of_ble_eq_true rfl) (v := fnsh jt) rfl gX12_deal_3.2.1 ?_
        refine lv_topi (fun x6386 ex6386 => ?_)
        refine lv_iconst (v := 1) hx hb gX12_deal_3.2.2.1 (by decide) ?_
        refine lv_icmp_ne (tgt := 67) hx hb gX12_deal_3.2.2.2.1 (by decide) (fun _ => ?_) (fun c9 => absurd c9 (fun h9 => absurd (hko9.symm.trans ((ex6386.symm).trans h9)) (by decide)))
        refine lv_iconst (v := 0) hx hb gX12_deal_3.2.2.2.2.2.2.1 (by decide) ?_
        refine lv_istore (lv' := [(5, .int 0), (4, .int 6), (0, .ref h0), (1, .int (nI jt)), (2, .int x2), (3, .int x3)]) hx hb gX12_deal_3.2.2.2.2.2.2.2.1 hl (by decide) rfl (fun ls hl => ?_)
        refine lv_aload_n hx hb gX12_deal_3.2.2.2.2.2.2.2.2.1 rfl (lv_at2 hl) ?_
        refine gf_X12_72 hC rfl hK hP 0 rfl rfl gX12_deal_3.2.2.2.2.2.2.2.2.2 ?_
        refine lv_iload_n hx hb gX12_deal_4.1 rfl (lv_at3 hl) ?_
        refine aldN hC hK hP 2 rfl (k := jt) (by omega) (Nat.le_of_ble_eq_true rfl) (v := fnsh jt) rfl gX12_deal_4.2.1 ?_
        refine lv_topi (fun x6387 ex6387 => ?_)
        refine lv_iconst (v := 2) hx hb gX12_deal_4.2.2.1 (by decide) ?_
        refine lv_icmp_ne (tgt := 84) hx hb gX12_deal_4.2.2.2.1 (by decide) (fun _ => ?_) (fun c9 => absurd c9 (fun h9 => absurd (hko9.symm.trans ((ex6387.symm).trans h9)) (by decide)))
        refine lv_iconst (v := 0) hx hb gX12_deal_4.2.2.2.2.2.2.1 (by decide) ?_
        refine lv_istore (lv' := [(6, .int 0), (5, .int 0), (4, .int 6), (0, .ref h0), (1, .int (nI jt)), (2, .int x2), (3, .int x3)]) hx hb gX12_deal_4.2.2.2.2.2.2.2.1 hl (by decide) rfl (fun ls hl => ?_)
        refine lv_aload_n hx hb gX12_deal_4.2.2.2.2.2.2.2.2.1 rfl (lv_at3 hl) ?_
        refine lv_iload hx hb gX12_deal_4.2.2.2.2.2.2.2.2.2 (lv_at1 hl) ?_
        refine lv_if_eq (tgt := 105) hx hb gX12_deal_5.1 (by decide) (fun _ => ?_) (fun c9 => absurd (by decide) c9)
        refine lv_iload hx hb gX12_deal_5.2.2.2.2.2.2.2.1 (lv_at0 hl) ?_
        refine lv_if_eq (tgt := 122) hx hb gX12_deal_5.2.2.2.2.2.2.2.2.1 (by decide) (fun _ => ?_) (fun c9 => absurd (by decide) c9)
        refine lv_aload_n hx hb gX12_deal_6.2.2.2.2.2.1 rfl (lv_at3 hl) ?_
        refine gf_X12_9 hC rfl hK hP 0 rfl rfl gX12_deal_6.2.2.2.2.2.2.1 ?_
        refine lv_sipush (v := 1552) hx hb gX12_deal_6.2.2.2.2.2.2.2.1 (by decide) ?_
        refine lv_iconst (v := 4) hx hb gX12_deal_6.2.2.2.2.2.2.2.2.1 (by decide) ?_
        refine lv_aload_n hx hb gX12_deal_6.2.2.2.2.2.2.2.2.2 rfl (lv_at3 hl) ?_
        refine gf_X12_378 hC rfl hK hP 0 rfl rfl gX12_deal_7.1 ?_
        refine lv_imul hx hb gX12_deal_7.2.1 ?_
        refine eqi (x1 := nI (4 * jno)) (nI_mul 4 jno) ?_
        refine lv_iadd hx hb gX12_deal_7.2.2.1 ?_
        refine eqi (x1 := nI (1552 + 4 * jno)) (nI_add 1552 (4 * jno)) ?_
        refine lv_iconst (v := 0) hx hb gX12_deal_7.2.2.2.1 (by decide) ?_
        refine lv_iadd hx hb gX12_deal_7.2.2.2.2.1 ?_
        refine eqi (x1 := nI (1552 + 4 * jno + 0)) (nI_add (1552 + 4 * jno) 0) ?_
        refine aldN hC hK hP 1 rfl (k := (1552 + 4 * jno + 0)) (by omega) (Nat.le_of_ble_eq_true rfl) (v := fnw (1552 + 4 * jno + 0)) rfl gX12_deal_7.2.2.2.2.2.1 ?_
        refine lv_topi (fun x6388 ex6388 => ?_)
        refine pf_X12_375 hC rfl hK hP hD hS 0 (ws' := [(h0, oX12 nw nk mhasKept nt mtaped nr mrowMany mroundOf mroundFrom mouts nm mfromHour mtoHour ns mfrom mto msort misFault mdeep mcoded mlines nl nc nF np ntr nb mbestCost nso nsi nit nsh nsf nss nrc 0 6 (nI jno) x6388 msize misParted), (nw, iA G 1662 fnw), (nsh, iA G 4 fnsh), (nsf, iA G 4 fnsf), (nrc, iA G 30 fnrc)]) rfl (Nat.le_of_ble_eq_true rfl) rfl rfl rfl gX12_deal_7.2.2.2.2.2.2.1 (fun H locs hP hD hS => ?_)
        refine lv_aload_n hx hb gX12_deal_7.2.2.2.2.2.2.2.1 rfl (lv_at3 hl) ?_
        refine lv_iload hx hb gX12_deal_7.2.2.2.2.2.2.2.2.1 (lv_at1 hl) ?_
        refine lv_if_eq (tgt := 160) hx hb gX12_deal_7.2.2.2.2.2.2.2.2.2 (by decide) (fun _ => ?_) (fun c9 => absurd (by decide) c9)
        refine lv_iload hx hb gX12_deal_8.2.2.2.2.2.2.1 (lv_at0 hl) ?_
        refine lv_if_eq (tgt := 177) hx hb gX12_deal_8.2.2.2.2.2.2.2.1 (by decide) (fun _ => ?_) (fun c9 => absurd (by decide) c9)
        refine lv_aload_n hx hb gX12_deal_9.2.2.2.2.1 rfl (lv_at3 hl) ?_
        refine gf_X12_9 hC rfl hK hP 0 rfl rfl gX12_deal_9.2.2.2.2.2.1 ?_
        refine lv_sipush (v := 1552) hx hb gX12_deal_9.2.2.2.2.2.2.1 (by decide) ?_
        refine lv_iconst (v := 4) hx hb gX12_deal_9.2.2.2.2.2.2.2.1 (by decide) ?_
        refine lv_aload_n hx hb gX12_deal_9.2.2.2.2.2.2.2.2.1 rfl (lv_at3 hl) ?_
        refine gf_X12_378 hC rfl hK hP 0 rfl rfl gX12_deal_9.2.2.2.2.2.2.2.2.2 ?_
        refine lv_imul hx hb gX12_deal_10.1 ?_
        refine eqi (x1 := nI (4 * jno)) (nI_mul 4 jno) ?_
        refine lv_iadd hx hb gX12_deal_10.2.1 ?_
        refine eqi (x1 := nI (1552 + 4 * jno)) (nI_add 1552 (4 * jno)) ?_
        refine lv_iconst (v := 2) hx hb gX12_deal_10.2.2.1 (by decide) ?_
        refine lv_iadd hx hb gX12_deal_10.2.2.2.1 ?_
        refine eqi (x1 := nI (1552 + 4 * jno + 2)) (nI_add (1552 + 4 * jno) 2) ?_
        refine aldN hC hK hP 1 rfl (k := (1552 + 4 * jno + 2)) (by omega) (Nat.le_of_ble_eq_true rfl) (v := fnw (1552 + 4 * jno + 2)) rfl gX12_deal_10.2.2.2.2.1 ?_
        refine lv_topi (fun x6389 ex6389 => ?_)
        refine pf_X12_369 hC rfl hK hP hD hS 0 (ws' := [(h0, oX12 nw nk mhasKept nt mtaped nr mrowMany mroundOf mroundFrom mouts nm mfromHour mtoHour ns mfrom mto msort misFault mdeep mcoded mlines nl nc nF np ntr nb mbestCost nso nsi nit nsh nsf nss nrc 0 6 (nI jno) x6388 x6389 misParted), (nw, iA G 1662 fnw), (nsh, iA G 4 fnsh), (nsf, iA G 4 fnsf), (nrc, iA G 30 fnrc)]) rfl (Nat.le_of_ble_eq_true rfl) rfl rfl rfl gX12_deal_10.2.2.2.2.2.1 (fun H locs hP hD hS => ?_)
        refine lv_aload_n hx hb gX12_deal_10.2.2.2.2.2.2.1 rfl (lv_at3 hl) ?_
        refine lv_iconst (v := 0) hx hb gX12_deal_10.2.2.2.2.2.2.2.1 (by decide) ?_
        refine pf_X12_380 hC rfl hK hP hD hS 0 (ws' := [(h0, oX12 nw nk mhasKept nt mtaped nr mrowMany mroundOf mroundFrom mouts nm mfromHour mtoHour ns mfrom mto msort misFault mdeep mcoded mlines nl nc nF np ntr nb mbestCost nso nsi nit nsh nsf nss nrc 0 6 (nI jno) x6388 x6389 0), (nw, iA G 1662 fnw), (nsh, iA G 4 fnsh), (nsf, iA G 4 fnsf), (nrc, iA G 30 fnrc)]) rfl (Nat.le_of_ble_eq_true rfl) rfl (by decide +kernel) (by decide +kernel) gX12_deal_10.2.2.2.2.2.2.2.2.1 (fun H locs hP hD hS => ?_)
        obtain ⟨jdl, hjdl, rfl⟩ := Wi_nat (N := 3) (by decide) a6207
        rcases (show jdl = 0 ∨ jdl = 1 ∨ jdl = 2 ∨ jdl = 3 by omega) with rfl | rfl | rfl | rfl
        · refine lv_aload_n hx hb gX12_deal_10.2.2.2.2.2.2.2.2.2 rfl (lv_at3 hl) ?_
          refine lv_iload_n hx hb gX12_deal_11.1 rfl (lv_at5 hl) ?_
          refine lv_iload_n hx hb gX12_deal_11.2.1 rfl (lv_at6 hl) ?_
          refine iV (wr := [(nw, iA G 1662 fnw), (nsh, iA G 4 fnsh), (nsf, iA G 4 fnsf)]) hC hK hl hP hD hS hA (m_dealt0 l G h0 x3 nw nk mhasKept nt mtaped nr mrowMany mroundOf mroundFrom mouts nm mfromHour mtoHour ns mfrom mto msort misFault mdeep mcoded mlines nl nc nF np ntr nb mbestCost nso nsi nit nsh nsf nss nrc 0 6 (nI jno) x6388 x6389 0 fnrc (by omega) (by omega)) si_X12_372 [0, 4] [1, 2, 3] sm_0_4 fm_0_4 nd_0_4 sm_1_2_3 nd_1_2_3 dj_0_4__1_2_3 rfl rfl rfl rfl rfl (Nat.le_of_ble_eq_true rfl) rm_60_14_3 ⟨Nat.le_of_ble_eq_true rfl, Nat.le_of_ble_eq_true rfl⟩ gX12_deal_11.2.2.1 (fun r6390 => Ktu3 fun jr16392 ip16393 gtrc6394 => ?_)
          intro H locs hr6390 hP hD hS
          try dsimp only at hr6390
          refine Kpdr (ws := [(nw, iA G 1662 fnw), (nsh, iA G 4 fnsh), (nsf, iA G 4 fnsf), (h0, oX12 nw nk mhasKept nt mtaped nr mrowMany mroundOf mroundFrom mouts nm mfromHour mtoHour ns mfrom mto msort misFault mdeep mcoded mlines nl nc nF np ntr nb mbestCost nso nsi nit nsh nsf nss nrc (nI jr16392) 6 (nI jno) x6388 x6389 ip16393), (nrc, iA G 30 gtrc6394)]) hP hD (fun hP hD => ?_)
          obtain ⟨hr6390, w6395⟩ := hr6390
          refine lv_istore (lv' := [(7, .int r6390), (6, .int 0), (5, .int 0), (4, .int 6), (0, .ref h0), (1, .int (nI jt)), (2, .int 0), (3, .int x3)]) hx hb gX12_deal_11.2.2.2.1 hl (by decide) rfl (fun ls hl => ?_)
          refine lv_aload_n hx hb gX12_deal_11.2.2.2.2.1 rfl (lv_at4 hl) ?_
          refine gf_X12_380 hC rfl hK hP 3 rfl rfl gX12_deal_11.2.2.2.2.2.1 ?_
          refine lv_if_eq (tgt := 222) hx hb gX12_deal_11.2.2.2.2.2.2.1 (by decide) (fun c_214_6396 => ?_) (fun c_214_6396 => ?_)
          · refine lv_iload hx hb gX12_deal_11.2.2.2.2.2.2.2.2.2 (lv_at0 hl) ?_
            refine toQ hQ0 ?_
            exact RI (v := r6390) hC hP hD hS [3, 0, 1, 2, 4] (jr16392, 6, nI jno, x6388, x6389, ip16393, gtrc6394) rfl rfl (by decide) (⟨trivial, by omega⟩) rfl gX12_deal_12
          · refine lv_bipush (v := (-15)) hx hb gX12_deal_11.2.2.2.2.2.2.2.1 (by decide) ?_
            refine lv_goto (tgt := 224) hx hb gX12_deal_11.2.2.2.2.2.2.2.2.1 (by decide) ?_
            refine toQ hQ0 ?_
            exact RI (v := (-15)) hC hP hD hS [3, 0, 1, 2, 4] (jr16392, 6, nI jno, x6388, x6389, ip16393, gtrc6394) rfl rfl (by decide) (⟨trivial, by omega⟩) rfl gX12_deal_12
        · refine lv_aload_n hx hb gX12_deal_10.2.2.2.2.2.2.2.2.2 rfl (lv_at3 hl) ?_
          refine lv_iload_n hx hb gX12_deal_11.1 rfl (lv_at5 hl) ?_
          refine lv_iload_n hx hb gX12_deal_11.2.1 rfl (lv_at6 hl) ?_
          refine iV (wr := [(nw, iA G 1662 fnw), (nsh, iA G 4 fnsh), (nsf, iA G 4 fnsf)]) hC hK hl hP hD hS hA (m_dealt1 l G h0 x3 nw nk mhasKept nt mtaped nr mrowMany mroundOf mroundFrom mouts nm mfromHour mtoHour ns mfrom mto msort misFault mdeep mcoded mlines nl nc nF np ntr nb mbestCost nso nsi nit nsh nsf nss nrc 0 6 (nI jno) x6388 x6389 0 fnrc (by omega) (by omega)) si_X12_372 [0, 4] [1, 2, 3] sm_0_4 fm_0_4 nd_0_4 sm_1_2_3 nd_1_2_3 dj_0_4__1_2_3 rfl rfl rfl rfl rfl (Nat.le_of_ble_eq_true rfl) rm_60_26_3 ⟨Nat.le_of_ble_eq_true rfl, Nat.le_of_ble_eq_true rfl⟩ gX12_deal_11.2.2.1 (fun r6397 => Ktu3 fun jr16399 ip16400 gtrc6401 => ?_)
          intro H locs hr6397 hP hD hS
          try dsimp only at hr6397
          refine Kpdr (ws := [(nw, iA G 1662 fnw), (nsh, iA G 4 fnsh), (nsf, iA G 4 fnsf), (h0, oX12 nw nk mhasKept nt mtaped nr mrowMany mroundOf mroundFrom mouts nm mfromHour mtoHour ns mfrom mto msort misFault mdeep mcoded mlines nl nc nF np ntr nb mbestCost nso nsi nit nsh nsf nss nrc (nI jr16399) 6 (nI jno) x6388 x6389 ip16400), (nrc, iA G 30 gtrc6401)]) hP hD (fun hP hD => ?_)
          obtain ⟨hr6397, w6402⟩ := hr6397
          refine lv_istore (lv' := [(7, .int r6397), (6, .int 0), (5, .int 0), (4, .int 6), (0, .ref h0), (1, .int (nI jt)), (2, .int 1), (3, .int x3)]) hx hb gX12_deal_11.2.2.2.1 hl (by decide) rfl (fun ls hl => ?_)
          refine lv_aload_n hx hb gX12_deal_11.2.2.2.2.1 rfl (lv_at4 hl) ?_
          refine gf_X12_380 hC rfl hK hP 3 rfl rfl gX12_deal_11.2.2.2.2.2.1 ?_
          refine lv_if_eq (tgt := 222) hx hb gX12_deal_11.2.2.2.2.2.2.1 (by decide) (fun c_214_6403 => ?_) (fun c_214_6403 => ?_)
          · refine lv_iload hx hb gX12_deal_11.2.2.2.2.2.2.2.2.2 (lv_at0 hl) ?_
            refine toQ hQ0 ?_
            exact RI (v := r6397) hC hP hD hS [3, 0, 1, 2, 4] (jr16399, 6, nI jno, x6388, x6389, ip16400, gtrc6401) rfl rfl (by decide) (⟨trivial, by omega⟩) rfl gX12_deal_12
          · refine lv_bipush (v := (-15)) hx hb gX12_deal_11.2.2.2.2.2.2.2.1 (by decide) ?_
            refine lv_goto (tgt := 224) hx hb gX12_deal_11.2.2.2.2.2.2.2.2.1 (by decide) ?_
            refine toQ hQ0 ?_
            exact RI (v := (-15)) hC hP hD hS [3, 0, 1, 2, 4] (jr16399, 6, nI jno, x6388, x6389, ip16400, gtrc6401) rfl rfl (by decide) (⟨trivial, by omega⟩) rfl gX12_deal_12
        · refine lv_aload_n hx hb gX12_deal_10.2.2.2.2.2.2.2.2.2 rfl (lv_at3 hl) ?_
          refine lv_iload_n hx hb gX12_deal_11.1 rfl (lv_at5 hl) ?_
          refine lv_iload_n hx hb gX12_deal_11.2.1 rfl (lv_at6 hl) ?_
          refine iV (wr := [(nw, iA G 1662 fnw), (nsh, iA G 4 fnsh), (nsf, iA G 4 fnsf)]) hC hK hl hP hD hS hA (m_dealt2 l G h0 x3 nw nk mhasKept nt mtaped nr mrowMany mroundOf mroundFrom mouts nm mfromHour mtoHour ns mfrom mto msort misFault mdeep mcoded mlines nl nc nF np ntr nb mbestCost nso nsi nit nsh nsf nss nrc 0 6 (nI jno) x6388 x6389 0 fnrc (by omega) (by omega)) si_X12_372 [0, 4] [1, 2, 3] sm_0_4 fm_0_4 nd_0_4 sm_1_2_3 nd_1_2_3 dj_0_4__1_2_3 rfl rfl rfl rfl rfl (Nat.le_of_ble_eq_true rfl) rm_60_38_3 ⟨Nat.le_of_ble_eq_true rfl, Nat.le_of_ble_eq_true rfl⟩ gX12_deal_11.2.2.1 (fun r6404 => Ktu3 fun jr16406 ip16407 gtrc6408 => ?_)
          intro H locs hr6404 hP hD hS
          try dsimp only at hr6404
          refine Kpdr (ws := [(nw, iA G 1662 fnw), (nsh, iA G 4 fnsh), (nsf, iA G 4 fnsf), (h0, oX12 nw nk mhasKept nt mtaped nr mrowMany mroundOf mroundFrom mouts nm mfromHour mtoHour ns mfrom mto msort misFault mdeep mcoded mlines nl nc nF np ntr nb mbestCost nso nsi nit nsh nsf nss nrc (nI jr16406) 6 (nI jno) x6388 x6389 ip16407), (nrc, iA G 30 gtrc6408)]) hP hD (fun hP hD => ?_)
          obtain ⟨hr6404, w6409⟩ := hr6404
          refine lv_istore (lv' := [(7, .int r6404), (6, .int 0), (5, .int 0), (4, .int 6), (0, .ref h0), (1, .int (nI jt)), (2, .int 2), (3, .int x3)]) hx hb gX12_deal_11.2.2.2.1 hl (by decide) rfl (fun ls hl => ?_)
          refine lv_aload_n hx hb gX12_deal_11.2.2.2.2.1 rfl (lv_at4 hl) ?_
          refine gf_X12_380 hC rfl hK hP 3 rfl rfl gX12_deal_11.2.2.2.2.2.1 ?_
          refine lv_if_eq (tgt := 222) hx hb gX12_deal_11.2.2.2.2.2.2.1 (by decide) (fun c_214_6410 => ?_) (fun c_214_6410 => ?_)
          · refine lv_iload hx hb gX12_deal_11.2.2.2.2.2.2.2.2.2 (lv_at0 hl) ?_
            refine toQ hQ0 ?_
            exact RI (v := r6404) hC hP hD hS [3, 0, 1, 2, 4] (jr16406, 6, nI jno, x6388, x6389, ip16407, gtrc6408) rfl rfl (by decide) (⟨trivial, by omega⟩) rfl gX12_deal_12
          · refine lv_bipush (v := (-15)) hx hb gX12_deal_11.2.2.2.2.2.2.2.1 (by decide) ?_
            refine lv_goto (tgt := 224) hx hb gX12_deal_11.2.2.2.2.2.2.2.2.1 (by decide) ?_
            refine toQ hQ0 ?_
            exact RI (v := (-15)) hC hP hD hS [3, 0, 1, 2, 4] (jr16406, 6, nI jno, x6388, x6389, ip16407, gtrc6408) rfl rfl (by decide) (⟨trivial, by omega⟩) rfl gX12_deal_12
        · refine lv_aload_n hx hb gX12_deal_10.2.2.2.2.2.2.2.2.2 rfl (lv_at3 hl) ?_
          refine lv_iload_n hx hb gX12_deal_11.1 rfl (lv_at5 hl) ?_
          refine lv_iload_n hx hb gX12_deal_11.2.1 rfl (lv_at6 hl) ?_
          refine iV (wr := [(nw, iA G 1662 fnw), (nsh, iA G 4 fnsh), (nsf, iA G 4 fnsf)]) hC hK hl hP hD hS hA (m_dealt3 l G h0 x3 nw nk mhasKept nt mtaped nr mrowMany mroundOf mroundFrom mouts nm mfromHour mtoHour ns mfrom mto msort misFault mdeep mcoded mlines nl nc nF np ntr nb mbestCost nso nsi nit nsh nsf nss nrc 0 6 (nI jno) x6388 x6389 0 fnrc (by omega) (by omega)) si_X12_372 [0, 4] [1, 2, 3] sm_0_4 fm_0_4 nd_0_4 sm_1_2_3 nd_1_2_3 dj_0_4__1_2_3 rfl rfl rfl rfl rfl (Nat.le_of_ble_eq_true rfl) rm_60_50_3 ⟨Nat.le_of_ble_eq_true rfl, Nat.le_of_ble_eq_true rfl⟩ gX12_deal_11.2.2.1 (fun r6411 => Ktu3 fun jr16413 ip16414 gtrc6415 => ?_)
          intro H locs hr6411 hP hD hS
          try dsimp only at hr6411
          refine Kpdr (ws := [(nw, iA G 1662 fnw), (nsh, iA G 4 fnsh), (nsf, iA G 4 fnsf), (h0, oX12 nw nk mhasKept nt mtaped nr mrowMany mroundOf mroundFrom mouts nm mfromHour mtoHour ns mfrom mto msort misFault mdeep mcoded mlines nl nc nF np ntr nb mbestCost nso nsi nit nsh nsf nss nrc (nI jr16413) 6 (nI jno) x6388 x6389 ip16414), (nrc, iA G 30 gtrc6415)]) hP hD (fun hP hD => ?_)
          obtain ⟨hr6411, w6416⟩ := hr6411
          refine lv_istore (lv' := [(7, .int r6411), (6, .int 0), (5, .int 0), (4, .int 6), (0, .ref h0), (1, .int (nI jt)), (2, .int 3), (3, .int x3)]) hx hb gX12_deal_11.2.2.2.1 hl (by decide) rfl (fun ls hl => ?_)
          refine lv_aload_n hx hb gX12_deal_11.2.2.2.2.1 rfl (lv_at4 hl) ?_
          refine gf_X12_380 hC rfl hK hP 3 rfl rfl gX12_deal_11.2.2.2.2.2.1 ?_
          refine lv_if_eq (tgt := 222) hx hb gX12_deal_11.2.2.2.2.2.2.1 (by decide) (fun c_214_6417 => ?_) (fun c_214_6417 => ?_)
          · refine lv_iload hx hb gX12_deal_11.2.2.2.2.2.2.2.2.2 (lv_at0 hl) ?_
            refine toQ hQ0 ?_
            exact RI (v := r6411) hC hP hD hS [3, 0, 1, 2, 4] (jr16413, 6, nI jno, x6388, x6389, ip16414, gtrc6415) rfl rfl (by decide) (⟨trivial, by omega⟩) rfl gX12_deal_12
          · refine lv_bipush (v := (-15)) hx hb gX12_deal_11.2.2.2.2.2.2.2.1 (by decide) ?_
            refine lv_goto (tgt := 224) hx hb gX12_deal_11.2.2.2.2.2.2.2.2.1 (by decide) ?_
            refine toQ hQ0 ?_
            exact RI (v := (-15)) hC hP hD hS [3, 0, 1, 2, 4] (jr16413, 6, nI jno, x6388, x6389, ip16414, gtrc6415) rfl rfl (by decide) (⟨trivial, by omega⟩) rfl gX12_deal_12
    · refine lv_if_ne (tgt := 23) hx hb gX12_deal_0.2.2.2.2.2.2.2.2.1 (by decide) (fun c9 => absurd (by decide) c9) (fun _ => ?_)
      refine lv_iconst (v := (-1)) hx hb gX12_deal_0.2.2.2.2.2.2.2.2.2 (by decide) ?_
      refine lv_goto (tgt := 28) hx hb gX12_deal_1.1 (by decide) ?_
      refine lv_istore (lv' := [(4, .int (-1)), (0, .ref h0), (1, .int x1), (2, .int x2), (3, .int x3)]) hx hb gX12_deal_1.2.2.2.2.1 hl (by decide) rfl (fun ls hl => ?_)
      refine lv_iload hx hb gX12_deal_1.2.2.2.2.2.1 (lv_at0 hl) ?_
      refine lv_if_ge (tgt := 37) hx hb gX12_deal_1.2.2.2.2.2.2.1 (by decide) (fun c9 => absurd c9 (by decide)) (fun _ => ?_)
      refine lv_iconst (v := 0) hx hb gX12_deal_1.2.2.2.2.2.2.2.1 (by decide) ?_
      refine toQ hQ0 ?_
      exact RI (v := 0) hC hP hD hS [0, 1, 2, 3, 4] (0, mdealer, mnumber, mwhose, msize, misParted, fnrc) rfl rfl (by decide) (⟨trivial, by omega⟩) rfl gX12_deal_1.2.2.2.2.2.2.2.2.1
  · refine lv_if_eq (tgt := 19) hx hb gX12_deal_0.2.2.2.2.2.1 (by decide) (fun _ => ?_) (fun c9 => absurd (by decide) c9)
    refine lv_iconst (v := (-1)) hx hb gX12_deal_0.2.2.2.2.2.2.2.2.2 (by decide) ?_
    refine lv_goto (tgt := 28) hx hb gX12_deal_1.1 (by decide) ?_
    refine lv_istore (lv' := [(4, .int (-1)), (0, .ref h0), (1, .int x1), (2, .int x2), (3, .int x3)]) hx hb gX12_deal_1.2.2.2.2.1 hl (by decide) rfl (fun ls hl => ?_)
    refine lv_iload hx hb gX12_deal_1.2.2.2.2.2.1 (lv_at0 hl) ?_
    refine lv_if_ge (tgt := 37) hx hb gX12_deal_1.2.2.2.2.2.2.1 (by decide) (fun c9 => absurd c9 (by decide)) (fun _ => ?_)
    refine lv_iconst (v := 0) hx hb gX12_deal_1.2.2.2.2.2.2.2.1 (by decide) ?_
    refine toQ hQ0 ?_
    exact RI (v := 0) hC hP hD hS [0, 1, 2, 3, 4] (0, mdealer, mnumber, mwhose, msize, misParted, fnrc) rfl rfl (by decide) (⟨trivial, by omega⟩) rfl gX12_deal_1.2.2.2.2.2.2.2.2.1
def K_r_trace (l : Launch) (G : GG) (h0 : Nat) (x1 : Int32) (nw : Nat) (nk : Nat) (mhasKept : Int32) (nt : Nat) (mtaped : Int32) (nr : Nat) (mrowMany : Int32) (mroundOf : Int32) (mroundFrom : Int32) (mouts : Int32) (nm : Nat) (mfromHour : Int32) (mtoHour : Int32) (ns : Nat) (mfrom : Int32) (mto : Int32) (msort : Int32) (misFault : Int32) (mdeep : Int32) (mcoded : Int32) (mlines : Int32) (nl : Nat) (nc : Nat) (nF : Nat) (np : Nat) (ntr : Nat) (nb : Nat) (mbestCost : Int32) (nso : Nat) (nsi : Nat) (nit : Nat) (nsh : Nat) (nsf : Nat) (nss : Nat) (nrc : Nat) (jr : Nat) (mdealer : Int32) (mnumber : Int32) (mwhose : Int32) (msize : Int32) (misParted : Int32) (fnrc : Nat → Int32) : Prop := MP l G yX12_trace cX12_trace 2 (some .int) 2 [.ref h0, .int x1] [(h0, oX12 nw nk mhasKept nt mtaped nr mrowMany mroundOf mroundFrom mouts nm mfromHour mtoHour ns mfrom mto msort misFault mdeep mcoded mlines nl nc nF np ntr nb mbestCost nso nsi nit nsh nsf nss nrc (nI jr) mdealer mnumber mwhose msize misParted), (nrc, iA G 30 fnrc)] (fun r : Int32 => r = ifc (Hs x1 jr) (fnrc x1.toNatClampNeg) (-3))
set_option maxHeartbeats 4000000 in
set_option maxRecDepth 100000 in
theorem r_trace (l : Launch) (G : GG) (h0 : Nat) (x1 : Int32) (nw : Nat) (nk : Nat) (mhasKept : Int32) (nt : Nat) (mtaped : Int32) (nr : Nat) (mrowMany : Int32) (mroundOf : Int32) (mroundFrom : Int32) (mouts : Int32) (nm : Nat) (mfromHour : Int32) (mtoHour : Int32) (ns : Nat) (mfrom : Int32) (mto : Int32) (msort : Int32) (misFault : Int32) (mdeep : Int32) (mcoded : Int32) (mlines : Int32) (nl : Nat) (nc : Nat) (nF : Nat) (np : Nat) (ntr : Nat) (nb : Nat) (mbestCost : Int32) (nso : Nat) (nsi : Nat) (nit : Nat) (nsh : Nat) (nsf : Nat) (nss : Nat) (nrc : Nat) (jr : Nat) (mdealer : Int32) (mnumber : Int32) (mwhose : Int32) (msize : Int32) (misParted : Int32) (fnrc : Nat → Int32) (hjr : jr ≤ 30) : K_r_trace l G h0 x1 nw nk mhasKept nt mtaped nr mrowMany mroundOf mroundFrom mouts nm mfromHour mtoHour ns mfrom mto msort misFault mdeep mcoded mlines nl nc nF np ntr nb mbestCost nso nsi nit nsh nsf nss nrc jr mdealer mnumber mwhose msize misParted fnrc := by
  refine MP.start (by decide +kernel) (Nat.le_of_ble_eq_true rfl) ?_
  intro p e s m below meth c ls hC hK hP hD hl
  refine absQ (fun Q0 hQ0 => ?_)
  have hl : lv_has ls 2 [(0, .ref h0), (1, .int x1)] := hl
  refine Kan8 hC (fun hx hb hr hml hB hown hlocks hnm => ?_)
  refine lv_iload_n hx hb gX12_trace_0.1 rfl (lv_at1 hl) ?_
  refine lv_iconst (v := 0) hx hb gX12_trace_0.2.1 (by decide) ?_
  refine lv_aload_n hx hb gX12_trace_0.2.2.1 rfl (lv_at0 hl) ?_
  refine gf_X12_351 hC rfl hK hP 0 rfl rfl gX12_trace_0.2.2.2.1 ?_
  refine lv_iconst (v := 1) hx hb gX12_trace_0.2.2.2.2.1 (by decide) ?_
  refine lv_isub hx hb gX12_trace_0.2.2.2.2.2.1 ?_
  refine eqi (x1 := (nI jr) - 1) (rfl) ?_
  refine pS hC hK hl (m_within l G x1 0 ((nI jr) - 1)) si_X12_84 rfl rfl (Nat.le_of_ble_eq_true rfl) rm_2_1_3 ⟨by first | exact Nat.le_of_ble_eq_true rfl | exact Nat.zero_le _, by first | exact Nat.le_of_ble_eq_true rfl | exact Nat.zero_le _⟩ gX12_trace_0.2.2.2.2.2.2.1 (Kors (Keqa fun a6419 => ?_) (Keqa fun a6419 => ?_))
  · refine lv_if_eq (tgt := 23) hx hb gX12_trace_0.2.2.2.2.2.2.2.1 (by decide) (fun c9 => absurd c9 (by decide)) (fun _ => ?_)
    obtain ⟨ji, hji, rfl⟩ := Hs_nat (by omega) ((WiHs (by omega)).mp a6419)
    refine lv_aload_n hx hb gX12_trace_0.2.2.2.2.2.2.2.2.1 rfl (lv_at0 hl) ?_
    refine gf_X12_81 hC rfl hK hP 0 rfl rfl gX12_trace_0.2.2.2.2.2.2.2.2.2 ?_
    refine lv_iload_n hx hb gX12_trace_1.1 rfl (lv_at1 hl) ?_
    refine aldN hC hK hP 1 rfl (k := ji) (by omega) (Nat.le_of_ble_eq_true rfl) (v := fnrc ji) rfl gX12_trace_1.2.1 ?_
    refine lv_goto (tgt := 25) hx hb gX12_trace_1.2.2.1 (by decide) ?_
    refine toQ hQ0 ?_
    exact RP (v := fnrc ji) hC ((by simp only [nI_clamp (n := ji) (by omega), ifc_t (q := Hs (nI ji) jr) ((WiHc (by omega)).mp a6419)])) rfl gX12_trace_1.2.2.2.2
  · refine lv_if_eq (tgt := 23) hx hb gX12_trace_0.2.2.2.2.2.2.2.1 (by decide) (fun _ => ?_) (fun c9 => absurd (by decide) c9)
    refine lv_bipush (v := (-3)) hx hb gX12_trace_1.2.2.2.1 (by decide) ?_
    refine toQ hQ0 ?_
    exact RP (v := (-3)) hC ((by simp only [ifc_f (q := Hs x1 jr) (fun h9 => a6419 ((WiHc (by omega)).mpr h9))])) rfl gX12_trace_1.2.2.2.2
def K_r_many (l : Launch) (G : GG) (h0 : Nat) (x1 : Int32) (nw : Nat) (nk : Nat) (mhasKept : Int32) (nt : Nat) (mtaped : Int32) (nr : Nat) (mrowMany : Int32) (mroundOf : Int32) (mroundFrom : Int32) (mouts : Int32) (nm : Nat) (mfromHour : Int32) (mtoHour : Int32) (ns : Nat) (mfrom : Int32) (mto : Int32) (msort : Int32) (misFault : Int32) (mdeep : Int32) (mcoded : Int32) (mlines : Int32) (nl : Nat) (nc : Nat) (nF : Nat) (np : Nat) (ntr : Nat) (nb : Nat) (mbestCost : Int32) (nso : Nat) (nsi : Nat) (nit : Nat) (nsh : Nat) (nsf : Nat) (nss : Nat) (nrc : Nat) (mtraced : Int32) (mdealer : Int32) (mnumber : Int32) (mwhose : Int32) (msize : Int32) (misParted : Int32) (fnw : Nat → Int32) (fnm : Nat → Int32) (fns : Nat → Int32) (fnp : Nat → Int32) : Prop := MI l G yX12_many cX12_many 4 (some .int) 10 0 0 [.ref h0, .int x1] [(h0, oX12 nw nk mhasKept nt mtaped nr mrowMany mroundOf mroundFrom mouts nm mfromHour mtoHour ns mfrom mto msort misFault mdeep mcoded mlines nl nc nF np ntr nb mbestCost nso nsi nit nsh nsf nss nrc mtraced mdealer mnumber mwhose msize misParted), (nw, iA G 1662 fnw), (nm, iA G 36 fnm), (ns, iA G 8 fns), (np, iA G 100 fnp)] (fun (r : Int32) (u : Int32 × Int32 × (Nat → Int32) × (Nat → Int32) × (Nat → Int32)) => (True) ∧ (MB u.2.2.1)) (fun u : Int32 × Int32 × (Nat → Int32) × (Nat → Int32) × (Nat → Int32) => [(h0, oX12 nw nk mhasKept nt mtaped nr mrowMany mroundOf mroundFrom mouts nm u.1 u.2.1 ns mfrom mto msort misFault mdeep mcoded mlines nl nc nF np ntr nb mbestCost nso nsi nit nsh nsf nss nrc mtraced mdealer mnumber mwhose msize misParted), (nw, iA G 1662 fnw), (nm, iA G 36 u.2.2.1), (ns, iA G 8 u.2.2.2.1), (np, iA G 100 u.2.2.2.2)])
set_option maxHeartbeats 4000000 in
set_option maxRecDepth 100000 in
theorem r_many (l : Launch) (G : GG) (h0 : Nat) (x1 : Int32) (nw : Nat) (nk : Nat) (mhasKept : Int32) (nt : Nat) (mtaped : Int32) (nr : Nat) (mrowMany : Int32) (mroundOf : Int32) (mroundFrom : Int32) (mouts : Int32) (nm : Nat) (mfromHour : Int32) (mtoHour : Int32) (ns : Nat) (mfrom : Int32) (mto : Int32) (msort : Int32) (misFault : Int32) (mdeep : Int32) (mcoded : Int32) (mlines : Int32) (nl : Nat) (nc : Nat) (nF : Nat) (np : Nat) (ntr : Nat) (nb : Nat) (mbestCost : Int32) (nso : Nat) (nsi : Nat) (nit : Nat) (nsh : Nat) (nsf : Nat) (nss : Nat) (nrc : Nat) (mtraced : Int32) (mdealer : Int32) (mnumber : Int32) (mwhose : Int32) (msize : Int32) (misParted : Int32) (fnw : Nat → Int32) (fnm : Nat → Int32) (fns : Nat → Int32) (fnp : Nat → Int32) (hN : NI fnw) (hV : VI fnw) (hM : MB fnm) : K_r_many l G h0 x1 nw nk mhasKept nt mtaped nr mrowMany mroundOf mroundFrom mouts nm mfromHour mtoHour ns mfrom mto msort misFault mdeep mcoded mlines nl nc nF np ntr nb mbestCost nso nsi nit nsh nsf nss nrc mtraced mdealer mnumber mwhose msize misParted fnw fnm fns fnp := by
  refine MI.start (by decide +kernel) (Nat.le_of_ble_eq_true rfl) ?_
  intro p e s m below meth c A ls hC hK hP hD hS hA hl
  refine absQ (fun Q0 hQ0 => ?_)
  have hl : lv_has ls 4 [(0, .ref h0), (1, .int x1)] := hl
  refine Kan8 hC (fun hx hb hr hml hB hown hlocks hnm => ?_)
  obtain ⟨k9, hk9, ek9⟩ := NI.nat hN (i := 9) (B := 12) (by decide +kernel) (by decide)
  refine lv_iload_n hx hb gX12_many_0.1 rfl (lv_at1 hl) ?_
  by_cases c_1_6420 : x1 = 0
  · refine lv_tableIn (tgt := 76) hx hb gX12_many_0.2.1 (by rw [c_1_6420]; decide) (by rw [c_1_6420]; decide) (by rw [c_1_6420]; rfl) (by decide) ?_
    refine lv_aload_n hx hb gX12_many_0.2.2.1 rfl (lv_at0 hl) ?_
    refine gf_X12_9 hC rfl hK hP 0 rfl rfl gX12_many_0.2.2.2.1 ?_
    refine lv_iconst (v := 0) hx hb gX12_many_0.2.2.2.2.1 (by decide) ?_
    refine ald hC hK hP 1 rfl (vin (by decide +kernel)) (k := 0) (by decide +kernel) (v := fnw 0) (rfl) gX12_many_0.2.2.2.2.2.1 ?_
    refine toQ hQ0 ?_
    exact RI (v := fnw 0) hC hP hD hS [0, 1, 2, 3, 4] (mfromHour, mtoHour, fnm, fns, fnp) rfl rfl (by decide) (⟨trivial, by first | assumption | exact hM⟩) rfl gX12_many_0.2.2.2.2.2.2.1
  by_cases c_1_6421 : x1 = 1
  · refine lv_tableIn (tgt := 83) hx hb gX12_many_0.2.1 (by rw [c_1_6421]; decide) (by rw [c_1_6421]; decide) (by rw [c_1_6421]; rfl) (by decide) ?_
    refine lv_aload_n hx hb gX12_many_0.2.2.2.2.2.2.2.1 rfl (lv_at0 hl) ?_
    refine gf_X12_9 hC rfl hK hP 0 rfl rfl gX12_many_0.2.2.2.2.2.2.2.2.1 ?_
    refine lv_iconst (v := 4) hx hb gX12_many_0.2.2.2.2.2.2.2.2.2 (by decide) ?_
    refine ald hC hK hP 1 rfl (vin (by decide +kernel)) (k := 4) (by decide +kernel) (v := fnw 4) (rfl) gX12_many_1.1 ?_
    refine toQ hQ0 ?_
    exact RI (v := fnw 4) hC hP hD hS [0, 1, 2, 3, 4] (mfromHour, mtoHour, fnm, fns, fnp) rfl rfl (by decide) (⟨trivial, by first | assumption | exact hM⟩) rfl gX12_many_1.2.1
  by_cases c_1_6422 : x1 = 2
  · refine lv_tableIn (tgt := 90) hx hb gX12_many_0.2.1 (by rw [c_1_6422]; decide) (by rw [c_1_6422]; decide) (by rw [c_1_6422]; rfl) (by decide) ?_
    refine lv_aload_n hx hb gX12_many_1.2.2.1 rfl (lv_at0 hl) ?_
    refine gf_X12_9 hC rfl hK hP 0 rfl rfl gX12_many_1.2.2.2.1 ?_
    refine lv_iconst (v := 5) hx hb gX12_many_1.2.2.2.2.1 (by decide) ?_
    refine ald hC hK hP 1 rfl (vin (by decide +kernel)) (k := 5) (by decide +kernel) (v := fnw 5) (rfl) gX12_many_1.2.2.2.2.2.1 ?_
    refine toQ hQ0 ?_
    exact RI (v := fnw 5) hC hP hD hS [0, 1, 2, 3, 4] (mfromHour, mtoHour, fnm, fns, fnp) rfl rfl (by decide) (⟨trivial, by first | assumption | exact hM⟩) rfl gX12_many_1.2.2.2.2.2.2.1
  by_cases c_1_6423 : x1 = 3
  · refine lv_tableIn (tgt := 97) hx hb gX12_many_0.2.1 (by rw [c_1_6423]; decide) (by rw [c_1_6423]; decide) (by rw [c_1_6423]; rfl) (by decide) ?_
    refine lv_aload_n hx hb gX12_many_1.2.2.2.2.2.2.2.1 rfl (lv_at0 hl) ?_
    refine pV hC hK hl hP hD (m_inView l G h0 nw nk mhasKept nt mtaped nr mrowMany mroundOf mroundFrom mouts nm mfromHour mtoHour ns mfrom mto msort misFault mdeep mcoded mlines nl nc nF np ntr nb mbestCost nso nsi nit nsh nsf nss nrc mtraced mdealer mnumber mwhose msize misParted fnw (hN)) si_X12_107 [0, 1] sm_0_1 fm_0_1 nd_0_1 rfl rfl rfl rfl rfl (Nat.le_of_ble_eq_true rfl) rm_10_3_3 ⟨by first | exact Nat.le_of_ble_eq_true rfl | exact Nat.zero_le _, by first | exact Nat.le_of_ble_eq_true rfl | exact Nat.zero_le _⟩ gX12_many_1.2.2.2.2.2.2.2.2.1 (fun r6424 hr6424 => ?_)
    refine pS hC hK hl (m_bits l G r6424) si_X12_110 rfl rfl (Nat.le_of_ble_eq_true rfl) rm_10_1_3 ⟨by first | exact Nat.le_of_ble_eq_true rfl | exact Nat.zero_le _, by first | exact Nat.le_of_ble_eq_true rfl | exact Nat.zero_le _⟩ gX12_many_1.2.2.2.2.2.2.2.2.2 (fun r6425 hr6425 => ?_)
    refine toQ hQ0 ?_
    exact RI (v := r6425) hC hP hD hS [0, 1, 2, 3, 4] (mfromHour, mtoHour, fnm, fns, fnp) rfl rfl (by decide) (⟨trivial, by first | assumption | exact hM⟩) rfl gX12_many_2.1
  by_cases c_1_6426 : x1 = 4
  · refine lv_tableIn (tgt := 105) hx hb gX12_many_0.2.1 (by rw [c_1_6426]; decide) (by rw [c_1_6426]; decide) (by rw [c_1_6426]; rfl) (by decide) ?_
    refine lv_aload_n hx hb gX12_many_2.2.1 rfl (lv_at0 hl) ?_
    refine gf_X12_9 hC rfl hK hP 0 rfl rfl gX12_many_2.2.2.1 ?_
    refine lv_bipush (v := 6) hx hb gX12_many_2.2.2.2.1 (by decide) ?_
    refine ald hC hK hP 1 rfl (vin (by decide +kernel)) (k := 6) (by decide +kernel) (v := fnw 6) (rfl) gX12_many_2.2.2.2.2.1 ?_
    refine toQ hQ0 ?_
    exact RI (v := fnw 6) hC hP hD hS [0, 1, 2, 3, 4] (mfromHour, mtoHour, fnm, fns, fnp) rfl rfl (by decide) (⟨trivial, by first | assumption | exact hM⟩) rfl gX12_many_2.2.2.2.2.2.1
  by_cases c_1_6427 : x1 = 5
  · refine lv_tableIn (tgt := 113) hx hb gX12_many_0.2.1 (by rw [c_1_6427]; decide) (by rw [c_1_6427]; decide) (by rw [c_1_6427]; rfl) (by decide) ?_
    refine lv_aload_n hx hb gX12_many_2.2.2.2.2.2.2.1 rfl (lv_at0 hl) ?_
    refine gf_X12_9 hC rfl hK hP 0 rfl rfl gX12_many_2.2.2.2.2.2.2.2.1 ?_
    refine lv_bipush (v := 7) hx hb gX12_many_2.2.2.2.2.2.2.2.2.1 (by decide) ?_
    refine ald hC hK hP 1 rfl (vin (by decide +kernel)) (k := 7) (by decide +kernel) (v := fnw 7) (rfl) gX12_many_2.2.2.2.2.2.2.2.2.2 ?_
    refine toQ hQ0 ?_
    exact RI (v := fnw 7) hC hP hD hS [0, 1, 2, 3, 4] (mfromHour, mtoHour, fnm, fns, fnp) rfl rfl (by decide) (⟨trivial, by first | assumption | exact hM⟩) rfl gX12_many_3.1
  by_cases c_1_6428 : x1 = 6
  · refine lv_tableIn (tgt := 121) hx hb gX12_many_0.2.1 (by rw [c_1_6428]; decide) (by rw [c_1_6428]; decide) (by rw [c_1_6428]; rfl) (by decide) ?_
    refine lv_aload_n hx hb gX12_many_3.2.1 rfl (lv_at0 hl) ?_
    refine gf_X12_9 hC rfl hK hP 0 rfl rfl gX12_many_3.2.2.1 ?_
    refine lv_bipush (v := 8) hx hb gX12_many_3.2.2.2.1 (by decide) ?_
    refine ald hC hK hP 1 rfl (vin (by decide +kernel)) (k := 8) (by decide +kernel) (v := fnw 8) (rfl) gX12_many_3.2.2.2.2.1 ?_
    refine toQ hQ0 ?_
    exact RI (v := fnw 8) hC hP hD hS [0, 1, 2, 3, 4] (mfromHour, mtoHour, fnm, fns, fnp) rfl rfl (by decide) (⟨trivial, by first | assumption | exact hM⟩) rfl gX12_many_3.2.2.2.2.2.1
  by_cases c_1_6429 : x1 = 7
  · refine lv_tableIn (tgt := 129) hx hb gX12_many_0.2.1 (by rw [c_1_6429]; decide) (by rw [c_1_6429]; decide) (by rw [c_1_6429]; rfl) (by decide) ?_
    refine lv_aload_n hx hb gX12_many_3.2.2.2.2.2.2.1 rfl (lv_at0 hl) ?_
    refine lv_iconst (v := (-1)) hx hb gX12_many_3.2.2.2.2.2.2.2.1 (by decide) ?_
    refine pV hC hK hl hP hD (m_saidBy l G h0 (-1) nw nk mhasKept nt mtaped nr mrowMany mroundOf mroundFrom mouts nm mfromHour mtoHour ns mfrom mto msort misFault mdeep mcoded mlines nl nc nF np ntr nb mbestCost nso nsi nit nsh nsf nss nrc mtraced mdealer mnumber mwhose msize misParted fnw (hN)) si_X12_127 [0, 1] sm_0_1 fm_0_1 nd_0_1 rfl rfl rfl rfl rfl (Nat.le_of_ble_eq_true rfl) rm_10_5_4 ⟨by first | exact Nat.le_of_ble_eq_true rfl | exact Nat.zero_le _, by first | exact Nat.le_of_ble_eq_true rfl | exact Nat.zero_le _⟩ gX12_many_3.2.2.2.2.2.2.2.2.1 (fun r6430 hr6430 => ?_)
    refine toQ hQ0 ?_
    exact RI (v := r6430) hC hP hD hS [0, 1, 2, 3, 4] (mfromHour, mtoHour, fnm, fns, fnp) rfl rfl (by decide) (⟨trivial, by first | assumption | exact hM⟩) rfl gX12_many_3.2.2.2.2.2.2.2.2.2
  by_cases c_1_6431 : x1 = 8
  · refine lv_tableIn (tgt := 135) hx hb gX12_many_0.2.1 (by rw [c_1_6431]; decide) (by rw [c_1_6431]; decide) (by rw [c_1_6431]; rfl) (by decide) ?_
    refine lv_aload_n hx hb gX12_many_4.1 rfl (lv_at0 hl) ?_
    refine gf_X12_9 hC rfl hK hP 0 rfl rfl gX12_many_4.2.1 ?_
    refine lv_bipush (v := 9) hx hb gX12_many_4.2.2.1 (by decide) ?_
    refine ald hC hK hP 1 rfl (vin (by decide +kernel)) (k := 9) (by decide +kernel) (v := nI k9) (ek9) gX12_many_4.2.2.2.1 ?_
    refine toQ hQ0 ?_
    exact RI (v := nI k9) hC hP hD hS [0, 1, 2, 3, 4] (mfromHour, mtoHour, fnm, fns, fnp) rfl rfl (by decide) (⟨trivial, by first | assumption | exact hM⟩) rfl gX12_many_4.2.2.2.2.1
  by_cases c_1_6432 : x1 = 9
  · refine lv_tableIn (tgt := 143) hx hb gX12_many_0.2.1 (by rw [c_1_6432]; decide) (by rw [c_1_6432]; decide) (by rw [c_1_6432]; rfl) (by decide) ?_
    refine lv_iconst (v := 0) hx hb gX12_many_4.2.2.2.2.2.1 (by decide) ?_
    refine lv_istore_n (lv' := [(2, .int 0), (0, .ref h0), (1, .int x1)]) hx hb gX12_many_4.2.2.2.2.2.2.1 rfl hl (by decide) rfl (fun ls hl => ?_)
    refine lv_iconst (v := 0) hx hb gX12_many_4.2.2.2.2.2.2.2.1 (by decide) ?_
    refine lv_istore_n (lv' := [(3, .int 0), (2, .int 0), (0, .ref h0), (1, .int x1)]) hx hb gX12_many_4.2.2.2.2.2.2.2.2.1 rfl hl (by decide) rfl (fun ls hl => ?_)
    have keyP : ∀ (nP kP : Nat) (nn : Int32) (vfh : Int32) (vth : Int32) (vA : Nat → Int32) (vS : Nat → Int32) (vR : Nat → Int32) (H : Heap) (locs : List Loc) (ls : Array Slot), kP + nP = k9 → (MB vA) → va_PD G A [(h0, oX12 nw nk mhasKept nt mtaped nr mrowMany mroundOf mroundFrom mouts nm vfh vth ns mfrom mto msort misFault mdeep mcoded mlines nl nc nF np ntr nb mbestCost nso nsi nit nsh nsf nss nrc mtraced mdealer mnumber mwhose msize misParted), (nw, iA G 1662 fnw), (nm, iA G 36 vA), (ns, iA G 8 vS), (np, iA G 100 vR)] H → va_S A s.heap H locs → lv_has ls 4 [(3, .int (nI kP)), (2, .int nn), (0, .ref h0), (1, .int x1)] → W p l e (RM 10 0 0) s m ([.ref h0, .int x1] : List Value).toArray below meth c H locs 0 0 Q0 (F0 m 147 ls []) := by
      intro nP
      induction nP with
      | zero =>
        intro kP nn vfh vth vA vS vR H locs ls hkP hvA hPD hS hl
        refine Kan2 hPD (fun hP hD => ?_)
        obtain rfl : k9 = kP := by omega
        have hl : lv_has ls 4 [(3, .int (nI k9)), (2, .int nn), (0, .ref h0), (1, .int x1)] := hl
        refine lv_iload_n hx hb gX12_many_4.2.2.2.2.2.2.2.2.2 rfl (lv_at0 hl) ?_
        refine lv_aload_n hx hb gX12_many_5.1 rfl (lv_at2 hl) ?_
        refine gf_X12_9 hC rfl hK hP 0 rfl rfl gX12_many_5.2.1 ?_
        refine lv_bipush (v := 9) hx hb gX12_many_5.2.2.1 (by decide) ?_
        refine ald hC hK hP 1 rfl (vin (by decide +kernel)) (k := 9) (by decide +kernel) (v := nI k9) (ek9) gX12_many_5.2.2.2.1 ?_
        refine lv_icmp_ge (tgt := 180) hx hb gX12_many_5.2.2.2.2.1 (by decide) (fun _ => ?_) (fun c9 => absurd (Int32.le_refl _) c9)
        refine lv_iload_n hx hb gX12_many_6.2.2.2.2.2.2.2.1 rfl (lv_at1 hl) ?_
        refine toQ hQ0 ?_
        exact RI (v := nn) hC hP hD hS [0, 1, 2, 3, 4] (vfh, vth, vA, vS, vR) rfl rfl (by decide) (⟨trivial, by first | assumption | exact hM⟩) rfl gX12_many_6.2.2.2.2.2.2.2.2.1
      | succ nP ihP =>
        intro kP nn vfh vth vA vS vR H locs ls hkP hvA hPD hS hl
        refine Kan2 hPD (fun hP hD => ?_)
        refine lv_iload_n hx hb gX12_many_4.2.2.2.2.2.2.2.2.2 rfl (lv_at0 hl) ?_
        refine lv_aload_n hx hb gX12_many_5.1 rfl (lv_at2 hl) ?_
        refine gf_X12_9 hC rfl hK hP 0 rfl rfl gX12_many_5.2.1 ?_
        refine lv_bipush (v := 9) hx hb gX12_many_5.2.2.1 (by decide) ?_
        refine ald hC hK hP 1 rfl (vin (by decide +kernel)) (k := 9) (by decide +kernel) (v := nI k9) (ek9) gX12_many_5.2.2.2.1 ?_
        refine lv_icmp_ge (tgt := 180) hx hb gX12_many_5.2.2.2.2.1 (by decide) (fun c9 => absurd c9 (nI_ge (a := kP) (b := k9) (by omega) (by omega))) (fun _ => ?_)
        refine lv_iload_n hx hb gX12_many_5.2.2.2.2.2.1 rfl (lv_at1 hl) ?_
        refine lv_aload_n hx hb gX12_many_5.2.2.2.2.2.2.1 rfl (lv_at2 hl) ?_
        refine lv_iload_n hx hb gX12_many_5.2.2.2.2.2.2.2.1 rfl (lv_at0 hl) ?_
        refine iV (wr := []) hC hK hl hP hD hS hA (m_stands l G h0 kP nw nk mhasKept nt mtaped nr mrowMany mroundOf mroundFrom mouts nm vfh vth ns mfrom mto msort misFault mdeep mcoded mlines nl nc nF np ntr nb mbestCost nso nsi nit nsh nsf nss nrc mtraced mdealer mnumber mwhose msize misParted fnw vA vS vR (by omega) (hN) (hV) (hvA)) si_X12_305 [0, 1, 2, 3, 4] [] sm_0_1_2_3_4 fm_0_1_2_3_4 nd_0_1_2_3_4 rfl rfl (by decide) rfl rfl rfl rfl rfl (Nat.le_of_ble_eq_true rfl) rm_10_9_3 ⟨Nat.le_of_ble_eq_true rfl, Nat.le_of_ble_eq_true rfl⟩ gX12_many_5.2.2.2.2.2.2.2.2.1 (fun r6433 => Ktu5 fun fh16435 th16436 gnm6437 gns6438 gnp6439 => ?_)
        intro H locs hr6433 hP hD hS
        try dsimp only at hr6433
        refine Kpdr (ws := [(h0, oX12 nw nk mhasKept nt mtaped nr mrowMany mroundOf mroundFrom mouts nm fh16435 th16436 ns mfrom mto msort misFault mdeep mcoded mlines nl nc nF np ntr nb mbestCost nso nsi nit nsh nsf nss nrc mtraced mdealer mnumber mwhose msize misParted), (nw, iA G 1662 fnw), (nm, iA G 36 gnm6437), (ns, iA G 8 gns6438), (np, iA G 100 gnp6439)]) hP hD (fun hP hD => ?_)
        obtain ⟨hr6433, w6440⟩ := hr6433
        rcases hr6433 with rfl | rfl
        · refine lv_if_eq (tgt := 171) hx hb gX12_many_5.2.2.2.2.2.2.2.2.2 (by decide) (fun c9 => absurd c9 (by decide)) (fun _ => ?_)
          refine lv_iconst (v := 1) hx hb gX12_many_6.1 (by decide) ?_
          refine lv_goto (tgt := 172) hx hb gX12_many_6.2.1 (by decide) ?_
          refine lv_iadd hx hb gX12_many_6.2.2.2.1 ?_
          refine lv_istore_n (lv' := [(2, .int (nn + 1)), (3, .int (nI kP)), (0, .ref h0), (1, .int x1)]) hx hb gX12_many_6.2.2.2.2.1 rfl hl (by decide) rfl (fun ls hl => ?_)
          refine lv_iinc (v := nI (kP + 1)) (lv' := [(3, .int (nI (kP + 1))), (2, .int (nn + 1)), (0, .ref h0), (1, .int x1)]) hx hb gX12_many_6.2.2.2.2.2.1 hl (k := 1) rfl (nI_1 _) (by decide) rfl (fun ls hl => ?_)
          refine lv_goto (tgt := 147) hx hb gX12_many_6.2.2.2.2.2.2.1 (by decide) ?_
          exact ihP (kP + 1) (nn + 1) fh16435 th16436 gnm6437 gns6438 gnp6439 _ _ _ (by omega) (by first | assumption | exact Or.inl rfl | exact Or.inr rfl) (And.intro hP hD) hS (lv_sub hl [0, 1, 2, 3] rfl)
        · refine lv_if_eq (tgt := 171) hx hb gX12_many_5.2.2.2.2.2.2.2.2.2 (by decide) (fun _ => ?_) (fun c9 => absurd (by decide) c9)
          refine lv_iconst (v := 0) hx hb gX12_many_6.2.2.1 (by decide) ?_
          refine lv_iadd hx hb gX12_many_6.2.2.2.1 ?_
          refine lv_istore_n (lv' := [(2, .int (nn + 0)), (3, .int (nI kP)), (0, .ref h0), (1, .int x1)]) hx hb gX12_many_6.2.2.2.2.1 rfl hl (by decide) rfl (fun ls hl => ?_)
          refine lv_iinc (v := nI (kP + 1)) (lv' := [(3, .int (nI (kP + 1))), (2, .int (nn + 0)), (0, .ref h0), (1, .int x1)]) hx hb gX12_many_6.2.2.2.2.2.1 hl (k := 1) rfl (nI_1 _) (by decide) rfl (fun ls hl => ?_)
          refine lv_goto (tgt := 147) hx hb gX12_many_6.2.2.2.2.2.2.1 (by decide) ?_
          exact ihP (kP + 1) (nn + 0) fh16435 th16436 gnm6437 gns6438 gnp6439 _ _ _ (by omega) (by first | assumption | exact Or.inl rfl | exact Or.inr rfl) (And.intro hP hD) hS (lv_sub hl [0, 1, 2, 3] rfl)
    exact keyP k9 0 0 mfromHour mtoHour fnm fns fnp _ _ _ (by omega) (by first | assumption | exact Or.inl rfl | exact Or.inr rfl) (And.intro hP hD) hS (lv_sub hl [0, 1, 2, 3] rfl)
  by_cases c_1_6442 : x1 = 10
  · refine lv_tableIn (tgt := 182) hx hb gX12_many_0.2.1 (by rw [c_1_6442]; decide) (by rw [c_1_6442]; decide) (by rw [c_1_6442]; rfl) (by decide) ?_
    refine lv_aload_n hx hb gX12_many_6.2.2.2.2.2.2.2.2.2 rfl (lv_at0 hl) ?_
    refine gf_X12_9 hC rfl hK hP 0 rfl rfl gX12_many_7.1 ?_
    refine lv_bipush (v := 10) hx hb gX12_many_7.2.1 (by decide) ?_
    refine ald hC hK hP 1 rfl (vin (by decide +kernel)) (k := 10) (by decide +kernel) (v := fnw 10) (rfl) gX12_many_7.2.2.1 ?_
    refine toQ hQ0 ?_
    exact RI (v := fnw 10) hC hP hD hS [0, 1, 2, 3, 4] (mfromHour, mtoHour, fnm, fns, fnp) rfl rfl (by decide) (⟨trivial, by first | assumption | exact hM⟩) rfl gX12_many_7.2.2.2.1
  by_cases c_1_6443 : x1 = 11
  · refine lv_tableIn (tgt := 190) hx hb gX12_many_0.2.1 (by rw [c_1_6443]; decide) (by rw [c_1_6443]; decide) (by rw [c_1_6443]; rfl) (by decide) ?_
    refine lv_aload_n hx hb gX12_many_7.2.2.2.2.1 rfl (lv_at0 hl) ?_
    refine gf_X12_9 hC rfl hK hP 0 rfl rfl gX12_many_7.2.2.2.2.2.1 ?_
    refine lv_bipush (v := 11) hx hb gX12_many_7.2.2.2.2.2.2.1 (by decide) ?_
    refine ald hC hK hP 1 rfl (vin (by decide +kernel)) (k := 11) (by decide +kernel) (v := fnw 11) (rfl) gX12_many_7.2.2.2.2.2.2.2.1 ?_
    refine toQ hQ0 ?_
    exact RI (v := fnw 11) hC hP hD hS [0, 1, 2, 3, 4] (mfromHour, mtoHour, fnm, fns, fnp) rfl rfl (by decide) (⟨trivial, by first | assumption | exact hM⟩) rfl gX12_many_7.2.2.2.2.2.2.2.2.1
  by_cases c_1_6444 : x1 = 12
  · refine lv_tableIn (tgt := 198) hx hb gX12_many_0.2.1 (by rw [c_1_6444]; decide) (by rw [c_1_6444]; decide) (by rw [c_1_6444]; rfl) (by decide) ?_
    refine lv_aload_n hx hb gX12_many_7.2.2.2.2.2.2.2.2.2 rfl (lv_at0 hl) ?_
    refine gf_X12_327 hC rfl hK hP 0 rfl rfl gX12_many_8.1 ?_
    refine toQ hQ0 ?_
    exact RI (v := mrowMany) hC hP hD hS [0, 1, 2, 3, 4] (mfromHour, mtoHour, fnm, fns, fnp) rfl rfl (by decide) (⟨trivial, by first | assumption | exact hM⟩) rfl gX12_many_8.2.1
  by_cases c_1_6445 : x1 = 13
  · refine lv_tableIn (tgt := 203) hx hb gX12_many_0.2.1 (by rw [c_1_6445]; decide) (by rw [c_1_6445]; decide) (by rw [c_1_6445]; rfl) (by decide) ?_
    refine lv_aload_n hx hb gX12_many_8.2.2.1 rfl (lv_at0 hl) ?_
    refine gf_X12_206 hC rfl hK hP 0 rfl rfl gX12_many_8.2.2.2.1 ?_
    refine toQ hQ0 ?_
    exact RI (v := mtaped) hC hP hD hS [0, 1, 2, 3, 4] (mfromHour, mtoHour, fnm, fns, fnp) rfl rfl (by decide) (⟨trivial, by first | assumption | exact hM⟩) rfl gX12_many_8.2.2.2.2.1
  by_cases c_1_6446 : x1 = 14
  · refine lv_tableIn (tgt := 208) hx hb gX12_many_0.2.1 (by rw [c_1_6446]; decide) (by rw [c_1_6446]; decide) (by rw [c_1_6446]; rfl) (by decide) ?_
    refine lv_aload_n hx hb gX12_many_8.2.2.2.2.2.1 rfl (lv_at0 hl) ?_
    refine gf_X12_351 hC rfl hK hP 0 rfl rfl gX12_many_8.2.2.2.2.2.2.1 ?_
    refine toQ hQ0 ?_
    exact RI (v := mtraced) hC hP hD hS [0, 1, 2, 3, 4] (mfromHour, mtoHour, fnm, fns, fnp) rfl rfl (by decide) (⟨trivial, by first | assumption | exact hM⟩) rfl gX12_many_8.2.2.2.2.2.2.2.1
  refine lv_tableOut (tgt := 213) hx hb gX12_many_0.2.1 (by have q9 := sw_0_14 (x := x1); simp only [c_1_6420, c_1_6421, c_1_6422, c_1_6423, c_1_6426, c_1_6427, c_1_6428, c_1_6429, c_1_6431, c_1_6432, c_1_6442, c_1_6443, c_1_6444, c_1_6445, c_1_6446, not_false_eq_true, true_implies] at q9; exact q9) (by decide) ?_
  refine lv_iconst (v := (-1)) hx hb gX12_many_8.2.2.2.2.2.2.2.2.1 (by decide) ?_
  refine toQ hQ0 ?_
  exact RI (v := (-1)) hC hP hD hS [0, 1, 2, 3, 4] (mfromHour, mtoHour, fnm, fns, fnp) rfl rfl (by decide) (⟨trivial, by first | assumption | exact hM⟩) rfl gX12_many_8.2.2.2.2.2.2.2.2.2
def K_w_keep (l : Launch) (G : GG) (h0 : Nat) (nw : Nat) (nk : Nat) (mhasKept : Int32) (nt : Nat) (mtaped : Int32) (nr : Nat) (mrowMany : Int32) (mroundOf : Int32) (mroundFrom : Int32) (mouts : Int32) (nm : Nat) (mfromHour : Int32) (mtoHour : Int32) (ns : Nat) (mfrom : Int32) (mto : Int32) (msort : Int32) (misFault : Int32) (mdeep : Int32) (mcoded : Int32) (mlines : Int32) (nl : Nat) (nc : Nat) (nF : Nat) (np : Nat) (ntr : Nat) (nb : Nat) (mbestCost : Int32) (nso : Nat) (nsi : Nat) (nit : Nat) (nsh : Nat) (nsf : Nat) (nss : Nat) (nrc : Nat) (mtraced : Int32) (mdealer : Int32) (mnumber : Int32) (mwhose : Int32) (msize : Int32) (misParted : Int32) (fnw : Nat → Int32) (fnk : Nat → Int32) : Prop := MI l G yX12_keep cX12_keep 2 (some .int) 1 0 0 [.ref h0] [(h0, oX12 nw nk mhasKept nt mtaped nr mrowMany mroundOf mroundFrom mouts nm mfromHour mtoHour ns mfrom mto msort misFault mdeep mcoded mlines nl nc nF np ntr nb mbestCost nso nsi nit nsh nsf nss nrc mtraced mdealer mnumber mwhose msize misParted), (nw, iA G 1662 fnw), (nk, iA G 1662 fnk)] (fun (r : Int32) (u : (Nat → Int32)) => (r = 1) ∧ (NI u ∧ VI u ∧ SCX u (fnw 0) (fnw 1) (fnw 2) (fnw 3) (fnw 4) (fnw 5) (fnw 6) (fnw 8) (fnw 9) (fnw 10) (fnw 11) ∧ AG 1662 fnw u)) (fun u : (Nat → Int32) => [(h0, oX12 nw nk 1 nt mtaped nr mrowMany mroundOf mroundFrom mouts nm mfromHour mtoHour ns mfrom mto msort misFault mdeep mcoded mlines nl nc nF np ntr nb mbestCost nso nsi nit nsh nsf nss nrc mtraced mdealer mnumber mwhose msize misParted), (nw, iA G 1662 fnw), (nk, iA G 1662 u)])
set_option maxHeartbeats 4000000 in
set_option maxRecDepth 100000 in
theorem w_keep (l : Launch) (G : GG) (h0 : Nat) (nw : Nat) (nk : Nat) (mhasKept : Int32) (nt : Nat) (mtaped : Int32) (nr : Nat) (mrowMany : Int32) (mroundOf : Int32) (mroundFrom : Int32) (mouts : Int32) (nm : Nat) (mfromHour : Int32) (mtoHour : Int32) (ns : Nat) (mfrom : Int32) (mto : Int32) (msort : Int32) (misFault : Int32) (mdeep : Int32) (mcoded : Int32) (mlines : Int32) (nl : Nat) (nc : Nat) (nF : Nat) (np : Nat) (ntr : Nat) (nb : Nat) (mbestCost : Int32) (nso : Nat) (nsi : Nat) (nit : Nat) (nsh : Nat) (nsf : Nat) (nss : Nat) (nrc : Nat) (mtraced : Int32) (mdealer : Int32) (mnumber : Int32) (mwhose : Int32) (msize : Int32) (misParted : Int32) (fnw : Nat → Int32) (fnk : Nat → Int32) (hN : NI fnw) (hV : VI fnw) : K_w_keep l G h0 nw nk mhasKept nt mtaped nr mrowMany mroundOf mroundFrom mouts nm mfromHour mtoHour ns mfrom mto msort misFault mdeep mcoded mlines nl nc nF np ntr nb mbestCost nso nsi nit nsh nsf nss nrc mtraced mdealer mnumber mwhose msize misParted fnw fnk := by
  refine MI.start (by decide +kernel) (Nat.le_of_ble_eq_true rfl) ?_
  intro p e s m below meth c A ls hC hK hP hD hS hA hl
  refine absQ (fun Q0 hQ0 => ?_)
  have hl : lv_has ls 2 [(0, .ref h0)] := hl
  refine Kan8 hC (fun hx hb hr hml hB hown hlocks hnm => ?_)
  refine lv_iconst (v := 0) hx hb gX12_keep_0.1 (by decide) ?_
  refine lv_istore_n (lv' := [(1, .int 0), (0, .ref h0)]) hx hb gX12_keep_0.2.1 rfl hl (by decide) rfl (fun ls hl => ?_)
  have keyP : ∀ (nP kP : Nat) (vK : Nat → Int32) (H : Heap) (locs : List Loc) (ls : Array Slot), kP + nP = 1662 → (AG kP fnw vK) → va_PD G A [(h0, oX12 nw nk mhasKept nt mtaped nr mrowMany mroundOf mroundFrom mouts nm mfromHour mtoHour ns mfrom mto msort misFault mdeep mcoded mlines nl nc nF np ntr nb mbestCost nso nsi nit nsh nsf nss nrc mtraced mdealer mnumber mwhose msize misParted), (nw, iA G 1662 fnw), (nk, iA G 1662 vK)] H → va_S A s.heap H locs → lv_has ls 2 [(1, .int (nI kP)), (0, .ref h0)] → W p l e (RM 1 0 0) s m ([.ref h0] : List Value).toArray below meth c H locs 0 0 Q0 (F0 m 2 ls []) := by
    intro nP
    induction nP with
    | zero =>
      intro kP vK H locs ls hkP hag hPD hS hl
      refine Kan2 hPD (fun hP hD => ?_)
      obtain rfl : 1662 = kP := by omega
      have hl : lv_has ls 2 [(1, .int 1662), (0, .ref h0)] := hl
      refine lv_iload_n hx hb gX12_keep_0.2.2.1 rfl (lv_at0 hl) ?_
      refine lv_sipush (v := 1662) hx hb gX12_keep_0.2.2.2.1 (by decide) ?_
      refine lv_icmp_ge (tgt := 27) hx hb gX12_keep_0.2.2.2.2.1 (by decide) (fun _ => ?_) (fun c9 => absurd (by decide) c9)
      refine lv_aload_n hx hb gX12_keep_1.2.2.2.2.2.1 rfl (lv_at1 hl) ?_
      refine lv_iconst (v := 1) hx hb gX12_keep_1.2.2.2.2.2.2.1 (by decide) ?_
      refine pf_X12_383 hC rfl hK hP hD hS 0 (ws' := [(h0, oX12 nw nk 1 nt mtaped nr mrowMany mroundOf mroundFrom mouts nm mfromHour mtoHour ns mfrom mto msort misFault mdeep mcoded mlines nl nc nF np ntr nb mbestCost nso nsi nit nsh nsf nss nrc mtraced mdealer mnumber mwhose msize misParted), (nw, iA G 1662 fnw), (nk, iA G 1662 vK)]) rfl (Nat.le_of_ble_eq_true rfl) rfl (by decide +kernel) (by decide +kernel) gX12_keep_1.2.2.2.2.2.2.2.1 (fun H locs hP hD hS => ?_)
      refine lv_iconst (v := 1) hx hb gX12_keep_1.2.2.2.2.2.2.2.2.1 (by decide) ?_
      refine toQ hQ0 ?_
      exact RI (v := 1) hC hP hD hS [0, 1, 2] vK rfl rfl (by decide) (⟨rfl, ⟨AG.NI hag hN, AG.VI hag hV, AG.SC hag, hag⟩⟩) rfl gX12_keep_1.2.2.2.2.2.2.2.2.2
    | succ nP ihP =>
      intro kP vK H locs ls hkP hag hPD hS hl
      refine Kan2 hPD (fun hP hD => ?_)
      refine lv_iload_n hx hb gX12_keep_0.2.2.1 rfl (lv_at0 hl) ?_
      refine lv_sipush (v := 1662) hx hb gX12_keep_0.2.2.2.1 (by decide) ?_
      refine lv_icmp_ge (tgt := 27) hx hb gX12_keep_0.2.2.2.2.1 (by decide) (fun c9 => absurd c9 (nI_ge (a := kP) (b := 1662) (by omega) (by omega))) (fun _ => ?_)
      refine lv_aload_n hx hb gX12_keep_0.2.2.2.2.2.1 rfl (lv_at1 hl) ?_
      refine gf_X12_13 hC rfl hK hP 0 rfl rfl gX12_keep_0.2.2.2.2.2.2.1 ?_
      refine lv_iload_n hx hb gX12_keep_0.2.2.2.2.2.2.2.1 rfl (lv_at0 hl) ?_
      refine lv_aload_n hx hb gX12_keep_0.2.2.2.2.2.2.2.2.1 rfl (lv_at1 hl) ?_
      refine gf_X12_9 hC rfl hK hP 0 rfl rfl gX12_keep_0.2.2.2.2.2.2.2.2.2 ?_
      refine lv_iload_n hx hb gX12_keep_1.1 rfl (lv_at0 hl) ?_
      refine aldN hC hK hP 1 rfl (k := kP) (by omega) (Nat.le_of_ble_eq_true rfl) (v := fnw kP) rfl gX12_keep_1.2.1 ?_
      refine lv_topi (fun x6447 ex6447 => ?_)
      refine astN hC hK hP hD hS 2 (ws' := [(h0, oX12 nw nk mhasKept nt mtaped nr mrowMany mroundOf mroundFrom mouts nm mfromHour mtoHour ns mfrom mto msort misFault mdeep mcoded mlines nl nc nF np ntr nb mbestCost nso nsi nit nsh nsf nss nrc mtraced mdealer mnumber mwhose msize misParted), (nw, iA G 1662 fnw), (nk, iA G 1662 (upd vK kP x6447))]) rfl (k := kP) (by omega) (Nat.le_of_ble_eq_true rfl) (rfl) gX12_keep_1.2.2.1 (fun H locs hP hD hS => ?_)
      refine lv_iinc (v := nI (kP + 1)) (lv' := [(1, .int (nI (kP + 1))), (0, .ref h0)]) hx hb gX12_keep_1.2.2.2.1 hl (k := 0) rfl (nI_1 _) (by decide) rfl (fun ls hl => ?_)
      refine lv_goto (tgt := 2) hx hb gX12_keep_1.2.2.2.2.1 (by decide) ?_
      exact ihP (kP + 1) (upd vK kP x6447) _ _ _ (by omega) (by first | assumption | exact Or.inl rfl | exact Or.inr rfl | exact AG.zero | exact AG.next (by assumption) (by assumption)) (And.intro hP hD) hS (lv_sub hl [0, 1] rfl)
  exact keyP 1662 0 fnk _ _ _ (by omega) (by first | assumption | exact Or.inl rfl | exact Or.inr rfl | exact AG.zero | exact AG.next (by assumption) (by assumption)) (And.intro hP hD) hS (lv_sub hl [0, 1] rfl)
def K_w_again0 (l : Launch) (G : GG) (h0 : Nat) (nw : Nat) (nk : Nat) (nt : Nat) (mtaped : Int32) (nr : Nat) (mrowMany : Int32) (mroundOf : Int32) (mroundFrom : Int32) (mouts : Int32) (nm : Nat) (mfromHour : Int32) (mtoHour : Int32) (ns : Nat) (mfrom : Int32) (mto : Int32) (msort : Int32) (misFault : Int32) (mdeep : Int32) (mcoded : Int32) (mlines : Int32) (nl : Nat) (nc : Nat) (nF : Nat) (np : Nat) (ntr : Nat) (nb : Nat) (mbestCost : Int32) (nso : Nat) (nsi : Nat) (nit : Nat) (nsh : Nat) (nsf : Nat) (nss : Nat) (nrc : Nat) (mtraced : Int32) (mdealer : Int32) (mnumber : Int32) (mwhose : Int32) (msize : Int32) (misParted : Int32) : Prop := MP l G yX12_again cX12_again 2 (some .int) 1 [.ref h0] [(h0, oX12 nw nk 0 nt mtaped nr mrowMany mroundOf mroundFrom mouts nm mfromHour mtoHour ns mfrom mto msort misFault mdeep mcoded mlines nl nc nF np ntr nb mbestCost nso nsi nit nsh nsf nss nrc mtraced mdealer mnumber mwhose msize misParted)] (fun r : Int32 => r = (-3))
set_option maxHeartbeats 4000000 in
set_option maxRecDepth 100000 in
theorem w_again0 (l : Launch) (G : GG) (h0 : Nat) (nw : Nat) (nk : Nat) (nt : Nat) (mtaped : Int32) (nr : Nat) (mrowMany : Int32) (mroundOf : Int32) (mroundFrom : Int32) (mouts : Int32) (nm : Nat) (mfromHour : Int32) (mtoHour : Int32) (ns : Nat) (mfrom : Int32) (mto : Int32) (msort : Int32) (misFault : Int32) (mdeep : Int32) (mcoded : Int32) (mlines : Int32) (nl : Nat) (nc : Nat) (nF : Nat) (np : Nat) (ntr : Nat) (nb : Nat) (mbestCost : Int32) (nso : Nat) (nsi : Nat) (nit : Nat) (nsh : Nat) (nsf : Nat) (nss : Nat) (nrc : Nat) (mtraced : Int32) (mdealer : Int32) (mnumber : Int32) (mwhose : Int32) (msize : Int32) (misParted : Int32) : K_w_again0 l G h0 nw nk nt mtaped nr mrowMany mroundOf mroundFrom mouts nm mfromHour mtoHour ns mfrom mto msort misFault mdeep mcoded mlines nl nc nF np ntr nb mbestCost nso nsi nit nsh nsf nss nrc mtraced mdealer mnumber mwhose msize misParted := by
  refine MP.start (by decide +kernel) (Nat.le_of_ble_eq_true rfl) ?_
  intro p e s m below meth c ls hC hK hP hD hl
  refine absQ (fun Q0 hQ0 => ?_)
  have hl : lv_has ls 2 [(0, .ref h0)] := hl
  refine Kan8 hC (fun hx hb hr hml hB hown hlocks hnm => ?_)
  refine lv_aload_n hx hb gX12_again_0.1 rfl (lv_at0 hl) ?_
  refine gf_X12_383 hC rfl hK hP 0 rfl rfl gX12_again_0.2.1 ?_
  refine lv_if_ne (tgt := 10) hx hb gX12_again_0.2.2.1 (by decide) (fun c9 => absurd (by decide) c9) (fun _ => ?_)
  refine lv_bipush (v := (-3)) hx hb gX12_again_0.2.2.2.1 (by decide) ?_
  refine toQ hQ0 ?_
  exact RP (v := (-3)) hC (rfl) rfl gX12_again_0.2.2.2.2.1
def K_w_again1 (l : Launch) (G : GG) (h0 : Nat) (nw : Nat) (nk : Nat) (nt : Nat) (mtaped : Int32) (nr : Nat) (mrowMany : Int32) (mroundOf : Int32) (mroundFrom : Int32) (mouts : Int32) (nm : Nat) (mfromHour : Int32) (mtoHour : Int32) (ns : Nat) (mfrom : Int32) (mto : Int32) (msort : Int32) (misFault : Int32) (mdeep : Int32) (mcoded : Int32) (mlines : Int32) (nl : Nat) (nc : Nat) (nF : Nat) (np : Nat) (ntr : Nat) (nb : Nat) (mbestCost : Int32) (nso : Nat) (nsi : Nat) (nit : Nat) (nsh : Nat) (nsf : Nat) (nss : Nat) (nrc : Nat) (mtraced : Int32) (mdealer : Int32) (mnumber : Int32) (mwhose : Int32) (msize : Int32) (misParted : Int32) (fnw : Nat → Int32) (fnk : Nat → Int32) : Prop := MI l G yX12_again cX12_again 2 (some .int) 1 0 0 [.ref h0] [(h0, oX12 nw nk 1 nt mtaped nr mrowMany mroundOf mroundFrom mouts nm mfromHour mtoHour ns mfrom mto msort misFault mdeep mcoded mlines nl nc nF np ntr nb mbestCost nso nsi nit nsh nsf nss nrc mtraced mdealer mnumber mwhose msize misParted), (nw, iA G 1662 fnw), (nk, iA G 1662 fnk)] (fun (r : Int32) (u : (Nat → Int32)) => (r = 1) ∧ (NI u ∧ VI u ∧ SCX u (fnk 0) (fnk 1) (fnk 2) (fnk 3) (fnk 4) (fnk 5) (fnk 6) (fnk 8) (fnk 9) (fnk 10) (fnk 11) ∧ AG 1662 fnk u)) (fun u : (Nat → Int32) => [(h0, oX12 nw nk 1 nt mtaped nr mrowMany mroundOf mroundFrom mouts nm mfromHour mtoHour ns mfrom mto msort misFault mdeep mcoded mlines nl nc nF np ntr nb mbestCost nso nsi nit nsh nsf nss nrc mtraced mdealer mnumber mwhose msize misParted), (nw, iA G 1662 u), (nk, iA G 1662 fnk)])
set_option maxHeartbeats 4000000 in
set_option maxRecDepth 100000 in
theorem w_again1 (l : Launch) (G : GG) (h0 : Nat) (nw : Nat) (nk : Nat) (nt : Nat) (mtaped : Int32) (nr : Nat) (mrowMany : Int32) (mroundOf : Int32) (mroundFrom : Int32) (mouts : Int32) (nm : Nat) (mfromHour : Int32) (mtoHour : Int32) (ns : Nat) (mfrom : Int32) (mto : Int32) (msort : Int32) (misFault : Int32) (mdeep : Int32) (mcoded : Int32) (mlines : Int32) (nl : Nat) (nc : Nat) (nF : Nat) (np : Nat) (ntr : Nat) (nb : Nat) (mbestCost : Int32) (nso : Nat) (nsi : Nat) (nit : Nat) (nsh : Nat) (nsf : Nat) (nss : Nat) (nrc : Nat) (mtraced : Int32) (mdealer : Int32) (mnumber : Int32) (mwhose : Int32) (msize : Int32) (misParted : Int32) (fnw : Nat → Int32) (fnk : Nat → Int32) (hN : NI fnw) (hV : VI fnw) (hNk : NI fnk) (hVk : VI fnk) : K_w_again1 l G h0 nw nk nt mtaped nr mrowMany mroundOf mroundFrom mouts nm mfromHour mtoHour ns mfrom mto msort misFault mdeep mcoded mlines nl nc nF np ntr nb mbestCost nso nsi nit nsh nsf nss nrc mtraced mdealer mnumber mwhose msize misParted fnw fnk := by
  refine MI.start (by decide +kernel) (Nat.le_of_ble_eq_true rfl) ?_
  intro p e s m below meth c A ls hC hK hP hD hS hA hl
  refine absQ (fun Q0 hQ0 => ?_)
  have hl : lv_has ls 2 [(0, .ref h0)] := hl
  refine Kan8 hC (fun hx hb hr hml hB hown hlocks hnm => ?_)
  refine lv_aload_n hx hb gX12_again_0.1 rfl (lv_at0 hl) ?_
  refine gf_X12_383 hC rfl hK hP 0 rfl rfl gX12_again_0.2.1 ?_
  refine lv_if_ne (tgt := 10) hx hb gX12_again_0.2.2.1 (by decide) (fun _ => ?_) (fun c9 => absurd c9 (by decide))
  refine lv_iconst (v := 0) hx hb gX12_again_0.2.2.2.2.2.1 (by decide) ?_
  refine lv_istore_n (lv' := [(1, .int 0), (0, .ref h0)]) hx hb gX12_again_0.2.2.2.2.2.2.1 rfl hl (by decide) rfl (fun ls hl => ?_)
  have keyP : ∀ (nP kP : Nat) (vK : Nat → Int32) (H : Heap) (locs : List Loc) (ls : Array Slot), kP + nP = 1662 → (AG kP fnk vK) → va_PD G A [(h0, oX12 nw nk 1 nt mtaped nr mrowMany mroundOf mroundFrom mouts nm mfromHour mtoHour ns mfrom mto msort misFault mdeep mcoded mlines nl nc nF np ntr nb mbestCost nso nsi nit nsh nsf nss nrc mtraced mdealer mnumber mwhose msize misParted), (nw, iA G 1662 vK), (nk, iA G 1662 fnk)] H → va_S A s.heap H locs → lv_has ls 2 [(1, .int (nI kP)), (0, .ref h0)] → W p l e (RM 1 0 0) s m ([.ref h0] : List Value).toArray below meth c H locs 0 0 Q0 (F0 m 12 ls []) := by
    intro nP
    induction nP with
    | zero =>
      intro kP vK H locs ls hkP hag hPD hS hl
      refine Kan2 hPD (fun hP hD => ?_)
      obtain rfl : 1662 = kP := by omega
      have hl : lv_has ls 2 [(1, .int 1662), (0, .ref h0)] := hl
      refine lv_iload_n hx hb gX12_again_0.2.2.2.2.2.2.2.1 rfl (lv_at0 hl) ?_
      refine lv_sipush (v := 1662) hx hb gX12_again_0.2.2.2.2.2.2.2.2.1 (by decide) ?_
      refine lv_icmp_ge (tgt := 37) hx hb gX12_again_0.2.2.2.2.2.2.2.2.2 (by decide) (fun _ => ?_) (fun c9 => absurd (by decide) c9)
      refine lv_iconst (v := 1) hx hb gX12_again_2.1 (by decide) ?_
      refine toQ hQ0 ?_
      exact RI (v := 1) hC hP hD hS [0, 1, 2] vK rfl rfl (by decide) (⟨rfl, ⟨AG.NI hag hNk, AG.VI hag hVk, AG.SC hag, hag⟩⟩) rfl gX12_again_2.2
    | succ nP ihP =>
      intro kP vK H locs ls hkP hag hPD hS hl
      refine Kan2 hPD (fun hP hD => ?_)
      refine lv_iload_n hx hb gX12_again_0.2.2.2.2.2.2.2.1 rfl (lv_at0 hl) ?_
      refine lv_sipush (v := 1662) hx hb gX12_again_0.2.2.2.2.2.2.2.2.1 (by decide) ?_
      refine lv_icmp_ge (tgt := 37) hx hb gX12_again_0.2.2.2.2.2.2.2.2.2 (by decide) (fun c9 => absurd c9 (nI_ge (a := kP) (b := 1662) (by omega) (by omega))) (fun _ => ?_)
      refine lv_aload_n hx hb gX12_again_1.1 rfl (lv_at1 hl) ?_
      refine gf_X12_9 hC rfl hK hP 0 rfl rfl gX12_again_1.2.1 ?_
      refine lv_iload_n hx hb gX12_again_1.2.2.1 rfl (lv_at0 hl) ?_
      refine lv_aload_n hx hb gX12_again_1.2.2.2.1 rfl (lv_at1 hl) ?_
      refine gf_X12_13 hC rfl hK hP 0 rfl rfl gX12_again_1.2.2.2.2.1 ?_
      refine lv_iload_n hx hb gX12_again_1.2.2.2.2.2.1 rfl (lv_at0 hl) ?_
      refine aldN hC hK hP 2 rfl (k := kP) (by omega) (Nat.le_of_ble_eq_true rfl) (v := fnk kP) rfl gX12_again_1.2.2.2.2.2.2.1 ?_
      refine lv_topi (fun x6448 ex6448 => ?_)
      refine astN hC hK hP hD hS 1 (ws' := [(h0, oX12 nw nk 1 nt mtaped nr mrowMany mroundOf mroundFrom mouts nm mfromHour mtoHour ns mfrom mto msort misFault mdeep mcoded mlines nl nc nF np ntr nb mbestCost nso nsi nit nsh nsf nss nrc mtraced mdealer mnumber mwhose msize misParted), (nw, iA G 1662 (upd vK kP x6448)), (nk, iA G 1662 fnk)]) rfl (k := kP) (by omega) (Nat.le_of_ble_eq_true rfl) (rfl) gX12_again_1.2.2.2.2.2.2.2.1 (fun H locs hP hD hS => ?_)
      refine lv_iinc (v := nI (kP + 1)) (lv' := [(1, .int (nI (kP + 1))), (0, .ref h0)]) hx hb gX12_again_1.2.2.2.2.2.2.2.2.1 hl (k := 0) rfl (nI_1 _) (by decide) rfl (fun ls hl => ?_)
      refine lv_goto (tgt := 12) hx hb gX12_again_1.2.2.2.2.2.2.2.2.2 (by decide) ?_
      exact ihP (kP + 1) (upd vK kP x6448) _ _ _ (by omega) (by first | assumption | exact Or.inl rfl | exact Or.inr rfl | exact AG.zero | exact AG.next (by assumption) (by assumption)) (And.intro hP hD) hS (lv_sub hl [0, 1] rfl)
  exact keyP 1662 0 fnw _ _ _ (by omega) (by first | assumption | exact Or.inl rfl | exact Or.inr rfl | exact AG.zero | exact AG.next (by assumption) (by assumption)) (And.intro hP hD) hS (lv_sub hl [0, 1] rfl)
