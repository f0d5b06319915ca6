section WR
variable {p : Program} {l : Launch} {e : Env} {R : Room} {s : State} {m : MethodId} {args : Array Value} {below : List Frame} {meth : Method} {c : Code} {H : Heap} {locs : List Loc} {cells slots : Nat} {Q : State → Prop}
variable {pc : Nat} {ls : Array Slot} {rest : List Value} {G : GG} {ws : va_W} {A : Nat → Prop} {y0 : MethodName} {b0 : ByteArray} {mL0 : Nat} {rt0 : Option FieldType} {a : Nat} {H0 : Heap}
end WR
/-- what a kind tells of its shelf -/
def KO1 (x : Int32) (y : Int32) (k : Nat) (B : Nat) : Prop := x = nI k ∧ ∃ j, j < B ∧ y = nI j
theorem KO1.mk {x x2 y y2 : Int32} {k B kk : Nat} (hB : kk ≤ B) (hk : kk < 2 ^ 31) (ex : x2 = x) (ey : y2 = y) (c : x2 = nI k) (h : Hs y2 kk) : KO1 x y k B := by
  obtain ⟨j, hj, e⟩ := Hs_nat hk h
  exact ⟨ex.symm.trans c, j, by omega, ey.symm.trans e⟩
/-- the first n alike -/
def AG (n : Nat) (f g : Nat → Int32) : Prop := ∀ i, i < n → g i = f i
theorem AG.zero {f g : Nat → Int32} : AG 0 f g := fun i h => absurd h (Nat.not_lt_zero i)
theorem AG.next {n : Nat} {f g : Nat → Int32} {x : Int32} (h : AG n f g) (hx : x = f n) : AG (n + 1) f (upd g n x) := by
  intro i hi
  unfold upd
  by_cases c : i = n
  · rw [if_pos c, hx, c]
  · rw [if_neg c]; exact h i (by omega)
theorem AG.SC {f g : Nat → Int32} (h : AG 1662 f g) : SCX g (f 0) (f 1) (f 2) (f 3) (f 4) (f 5) (f 6) (f 8) (f 9) (f 10) (f 11) := SCX.rf.ag fun i h1 _ => h i (by omega)
theorem AG.NI {f g : Nat → Int32} (h : AG 1662 f g) (hN : NI f) : NI g := by
  intro i
  by_cases c : i < 1662
  · rw [h i c]; exact hN i
  · rw [bnd_end (by omega)]
    exact ⟨ti_lo _, ti_hi _⟩
theorem AG.VI {f g : Nat → Int32} (h : AG 1662 f g) (hV : VI f) : VI g := by
  intro v hv
  exact VOK.ext (fun j hj => (h _ (by omega)).symm) (hV v hv)
section WR
variable {p : Program} {l : Launch} {e : Env} {R : Room} {s : State} {m : MethodId} {args : Array Value} {below : List Frame} {meth : Method} {c : Code} {H : Heap} {locs : List Loc} {cells slots : Nat} {Q : State → Prop}
variable {pc : Nat} {ls : Array Slot} {rest : List Value} {G : GG} {ws : va_W} {A : Nat → Prop} {y0 : MethodName} {b0 : ByteArray} {mL0 : Nat} {rt0 : Option FieldType} {a : Nat} {H0 : Heap}
theorem gX12_kindOn_0 : (decode cX12_kindOn 0 = .ok (.aload_n 0, 1)) ∧ (decode cX12_kindOn 1 = .ok (.getfield 75, 3)) ∧ (decode cX12_kindOn 4 = .ok (.iload_n 1, 1)) ∧ (decode cX12_kindOn 5 = .ok (.iaload, 1)) ∧ (decode cX12_kindOn 6 = .ok (.istore_n 2, 1)) ∧ (decode cX12_kindOn 7 = .ok (.aload_n 0, 1)) ∧ (decode cX12_kindOn 8 = .ok (.getfield 72, 3)) ∧ (decode cX12_kindOn 11 = .ok (.iload_n 1, 1)) ∧ (decode cX12_kindOn 12 = .ok (.iaload, 1)) ∧ (decode cX12_kindOn 13 = .ok (.tableswitch 145 1 3 #[27, 98, 128], 27)) := by decide +kernel
theorem gX12_kindOn_1 : (decode cX12_kindOn 40 = .ok (.aload_n 0, 1)) ∧ (decode cX12_kindOn 41 = .ok (.iload_n 2, 1)) ∧ (decode cX12_kindOn 42 = .ok (.iconst 5, 1)) ∧ (decode cX12_kindOn 43 = .ok (.invokevirtual 120, 3)) ∧ (decode cX12_kindOn 46 = .ok (.ifCond .eq 27, 3)) ∧ (decode cX12_kindOn 49 = .ok (.aload_n 0, 1)) ∧ (decode cX12_kindOn 50 = .ok (.iload_n 2, 1)) ∧ (decode cX12_kindOn 51 = .ok (.iconst 1, 1)) ∧ (decode cX12_kindOn 52 = .ok (.invokevirtual 88, 3)) ∧ (decode cX12_kindOn 55 = .ok (.iconst 1, 1)) := by decide +kernel
theorem gX12_kindOn_2 : (decode cX12_kindOn 56 = .ok (.aload_n 0, 1)) ∧ (decode cX12_kindOn 57 = .ok (.iload_n 2, 1)) ∧ (decode cX12_kindOn 58 = .ok (.iconst 0, 1)) ∧ (decode cX12_kindOn 59 = .ok (.invokevirtual 88, 3)) ∧ (decode cX12_kindOn 62 = .ok (.ishl, 1)) ∧ (decode cX12_kindOn 63 = .ok (.iconst (-1), 1)) ∧ (decode cX12_kindOn 64 = .ok (.ixor, 1)) ∧ (decode cX12_kindOn 65 = .ok (.iand, 1)) ∧ (decode cX12_kindOn 66 = .ok (.ifCond .eq 7, 3)) ∧ (decode cX12_kindOn 69 = .ok (.iconst 1, 1)) := by decide +kernel
theorem gX12_kindOn_3 : (decode cX12_kindOn 70 = .ok (.goto 4, 3)) ∧ (decode cX12_kindOn 73 = .ok (.iconst 0, 1)) ∧ (decode cX12_kindOn 74 = .ok (.istore_n 3, 1)) ∧ (decode cX12_kindOn 75 = .ok (.aload_n 0, 1)) ∧ (decode cX12_kindOn 76 = .ok (.iload_n 2, 1)) ∧ (decode cX12_kindOn 77 = .ok (.iconst 5, 1)) ∧ (decode cX12_kindOn 78 = .ok (.invokevirtual 120, 3)) ∧ (decode cX12_kindOn 81 = .ok (.ifCond .ne 7, 3)) ∧ (decode cX12_kindOn 84 = .ok (.iconst (-1), 1)) ∧ (decode cX12_kindOn 85 = .ok (.goto 25, 3)) := by decide +kernel
theorem gX12_kindOn_4 : (decode cX12_kindOn 88 = .ok (.iload_n 3, 1)) ∧ (decode cX12_kindOn 89 = .ok (.ifCond .ne 7, 3)) ∧ (decode cX12_kindOn 92 = .ok (.iconst 2, 1)) ∧ (decode cX12_kindOn 93 = .ok (.goto 17, 3)) ∧ (decode cX12_kindOn 96 = .ok (.aload_n 0, 1)) ∧ (decode cX12_kindOn 97 = .ok (.iload_n 2, 1)) ∧ (decode cX12_kindOn 98 = .ok (.iconst 3, 1)) ∧ (decode cX12_kindOn 99 = .ok (.invokevirtual 88, 3)) ∧ (decode cX12_kindOn 102 = .ok (.ifCond .le 7, 3)) ∧ (decode cX12_kindOn 105 = .ok (.iconst 3, 1)) := by decide +kernel
theorem gX12_kindOn_5 : (decode cX12_kindOn 106 = .ok (.goto 4, 3)) ∧ (decode cX12_kindOn 109 = .ok (.iconst 1, 1)) ∧ (decode cX12_kindOn 110 = .ok (.ireturn, 1)) ∧ (decode cX12_kindOn 111 = .ok (.aload_n 0, 1)) ∧ (decode cX12_kindOn 112 = .ok (.iload_n 2, 1)) ∧ (decode cX12_kindOn 113 = .ok (.bipush 8, 2)) ∧ (decode cX12_kindOn 115 = .ok (.invokevirtual 120, 3)) ∧ (decode cX12_kindOn 118 = .ok (.ifCond .ne 7, 3)) ∧ (decode cX12_kindOn 121 = .ok (.iconst (-1), 1)) ∧ (decode cX12_kindOn 122 = .ok (.goto 18, 3)) := by decide +kernel
theorem gX12_kindOn_6 : (decode cX12_kindOn 125 = .ok (.aload_n 0, 1)) ∧ (decode cX12_kindOn 126 = .ok (.iload_n 2, 1)) ∧ (decode cX12_kindOn 127 = .ok (.bipush 6, 2)) ∧ (decode cX12_kindOn 129 = .ok (.invokevirtual 114, 3)) ∧ (decode cX12_kindOn 132 = .ok (.ifCond .ge 7, 3)) ∧ (decode cX12_kindOn 135 = .ok (.iconst 5, 1)) ∧ (decode cX12_kindOn 136 = .ok (.goto 4, 3)) ∧ (decode cX12_kindOn 139 = .ok (.iconst 4, 1)) ∧ (decode cX12_kindOn 140 = .ok (.ireturn, 1)) ∧ (decode cX12_kindOn 141 = .ok (.aload_n 0, 1)) := by decide +kernel
theorem gX12_kindOn_7 : (decode cX12_kindOn 142 = .ok (.iload_n 2, 1)) ∧ (decode cX12_kindOn 143 = .ok (.bipush 9, 2)) ∧ (decode cX12_kindOn 145 = .ok (.invokevirtual 120, 3)) ∧ (decode cX12_kindOn 148 = .ok (.ifCond .eq 8, 3)) ∧ (decode cX12_kindOn 151 = .ok (.bipush 6, 2)) ∧ (decode cX12_kindOn 153 = .ok (.goto 4, 3)) ∧ (decode cX12_kindOn 156 = .ok (.iconst (-1), 1)) ∧ (decode cX12_kindOn 157 = .ok (.ireturn, 1)) ∧ (decode cX12_kindOn 158 = .ok (.iconst (-1), 1)) ∧ (decode cX12_kindOn 159 = .ok (.ireturn, 1)) := by decide +kernel
theorem sw_1_3 {x : Int32} : ¬ x = 1 → ¬ x = 2 → ¬ x = 3 →  (x.toInt < 1 ∨ 3 < x.toInt) := by
  intros
  simp only [← Int32.toInt_inj] at *
  have hk : ∀ k : Int, x.toInt = k → x.toInt = k := fun _ h => h
  have k1 : (1 : Int32).toInt = 1 := by decide
  have k2 : (2 : Int32).toInt = 2 := by decide
  have k3 : (3 : Int32).toInt = 3 := by decide
  omega
theorem gX12_above_0 : (decode cX12_above 0 = .ok (.iload_n 0, 1)) ∧ (decode cX12_above 1 = .ok (.iconst 3, 1)) ∧ (decode cX12_above 2 = .ok (.if_icmp .ne 7, 3)) ∧ (decode cX12_above 5 = .ok (.iconst 1, 1)) ∧ (decode cX12_above 6 = .ok (.goto 21, 3)) ∧ (decode cX12_above 9 = .ok (.iload_n 0, 1)) ∧ (decode cX12_above 10 = .ok (.iconst 5, 1)) ∧ (decode cX12_above 11 = .ok (.if_icmp .ne 7, 3)) ∧ (decode cX12_above 14 = .ok (.iconst 4, 1)) ∧ (decode cX12_above 15 = .ok (.goto 12, 3)) := by decide +kernel
theorem gX12_above_1 : (decode cX12_above 18 = .ok (.iload_n 0, 1)) ∧ (decode cX12_above 19 = .ok (.ifCond .ne 7, 3)) ∧ (decode cX12_above 22 = .ok (.iconst (-1), 1)) ∧ (decode cX12_above 23 = .ok (.goto 4, 3)) ∧ (decode cX12_above 26 = .ok (.iconst 0, 1)) ∧ (decode cX12_above 27 = .ok (.ireturn, 1)) := by decide +kernel
theorem gX12_hasOwn_0 : (decode cX12_hasOwn 0 = .ok (.iload_n 0, 1)) ∧ (decode cX12_hasOwn 1 = .ok (.tableswitch 94 0 5 #[39, 41, 52, 63, 79, 79], 39)) ∧ (decode cX12_hasOwn 40 = .ok (.iconst 1, 1)) ∧ (decode cX12_hasOwn 41 = .ok (.ireturn, 1)) ∧ (decode cX12_hasOwn 42 = .ok (.iload_n 1, 1)) ∧ (decode cX12_hasOwn 43 = .ok (.iconst 1, 1)) ∧ (decode cX12_hasOwn 44 = .ok (.if_icmp .ne 7, 3)) ∧ (decode cX12_hasOwn 47 = .ok (.iconst 1, 1)) ∧ (decode cX12_hasOwn 48 = .ok (.goto 4, 3)) ∧ (decode cX12_hasOwn 51 = .ok (.iconst 0, 1)) := by decide +kernel
theorem gX12_hasOwn_1 : (decode cX12_hasOwn 52 = .ok (.ireturn, 1)) ∧ (decode cX12_hasOwn 53 = .ok (.iload_n 1, 1)) ∧ (decode cX12_hasOwn 54 = .ok (.iconst 2, 1)) ∧ (decode cX12_hasOwn 55 = .ok (.if_icmp .ne 7, 3)) ∧ (decode cX12_hasOwn 58 = .ok (.iconst 1, 1)) ∧ (decode cX12_hasOwn 59 = .ok (.goto 4, 3)) ∧ (decode cX12_hasOwn 62 = .ok (.iconst 0, 1)) ∧ (decode cX12_hasOwn 63 = .ok (.ireturn, 1)) ∧ (decode cX12_hasOwn 64 = .ok (.iload_n 1, 1)) ∧ (decode cX12_hasOwn 65 = .ok (.iconst 1, 1)) := by decide +kernel
theorem gX12_hasOwn_2 : (decode cX12_hasOwn 66 = .ok (.if_icmp .eq 8, 3)) ∧ (decode cX12_hasOwn 69 = .ok (.iload_n 1, 1)) ∧ (decode cX12_hasOwn 70 = .ok (.iconst 3, 1)) ∧ (decode cX12_hasOwn 71 = .ok (.if_icmp .ne 7, 3)) ∧ (decode cX12_hasOwn 74 = .ok (.iconst 1, 1)) ∧ (decode cX12_hasOwn 75 = .ok (.goto 4, 3)) ∧ (decode cX12_hasOwn 78 = .ok (.iconst 0, 1)) ∧ (decode cX12_hasOwn 79 = .ok (.ireturn, 1)) ∧ (decode cX12_hasOwn 80 = .ok (.iload_n 1, 1)) ∧ (decode cX12_hasOwn 81 = .ok (.ifCond .eq 8, 3)) := by decide +kernel
theorem gX12_hasOwn_3 : (decode cX12_hasOwn 84 = .ok (.iload_n 1, 1)) ∧ (decode cX12_hasOwn 85 = .ok (.iconst 2, 1)) ∧ (decode cX12_hasOwn 86 = .ok (.if_icmp .ne 7, 3)) ∧ (decode cX12_hasOwn 89 = .ok (.iconst 1, 1)) ∧ (decode cX12_hasOwn 90 = .ok (.goto 4, 3)) ∧ (decode cX12_hasOwn 93 = .ok (.iconst 0, 1)) ∧ (decode cX12_hasOwn 94 = .ok (.ireturn, 1)) ∧ (decode cX12_hasOwn 95 = .ok (.iload_n 1, 1)) ∧ (decode cX12_hasOwn 96 = .ok (.iconst 3, 1)) ∧ (decode cX12_hasOwn 97 = .ok (.if_icmp .ne 7, 3)) := by decide +kernel
theorem gX12_hasOwn_4 : (decode cX12_hasOwn 100 = .ok (.iconst 1, 1)) ∧ (decode cX12_hasOwn 101 = .ok (.goto 4, 3)) ∧ (decode cX12_hasOwn 104 = .ok (.iconst 0, 1)) ∧ (decode cX12_hasOwn 105 = .ok (.ireturn, 1)) := by decide +kernel
end WR
/-- the reference's word for the kind of what a shelf holds -/
noncomputable def KOM (s o : Int32) (kp ks kf : Nat) (gp gs : Nat → Int32) : Int32 := ifc (s = 1) (ifc (Hs o kp) (nI (PKn (gp (o.toNatClampNeg * 6 + 1)) (gp (o.toNatClampNeg * 6 + 0)) (gp (o.toNatClampNeg * 6 + 3)))) (-1)) (ifc (s = 2) (ifc (Hs o ks) (nI (SKn (gs (o.toNatClampNeg * 8 + 6)))) (-1)) (ifc (s = 3) (ifc (Hs o kf) 6 (-1)) (-1)))
theorem wi_ten {x : Int32} : Wi (x - 10) 0 4 ↔ Wi x 10 14 := by
  constructor
  · intro h
    obtain ⟨j, hj, e⟩ := Wi_nat (N := 4) (by decide) h
    have h1 : x - 10 + 10 = x := by rw [Int32.sub_add_cancel]
    rw [e] at h1
    have e2 : x = nI (j + 10) := h1.symm.trans (nI_add j 10)
    rw [e2, wi_lit (a := 10) (b := 14) (by omega) (by decide) (by decide)]
    omega
  · intro h
    have h0 : ¬ x < 0 := fun h9 => h.1 (by
      rw [Int32.lt_iff_toInt_lt] at h9 ⊢
      have e0 : (0 : Int32).toInt = 0 := by decide
      have e10 : (10 : Int32).toInt = 10 := by decide
      omega)
    obtain ⟨n, hn, rfl⟩ := nI_of h0
    rw [wi_lit (a := 10) (b := 14) hn (by decide) (by decide)] at h
    have e2 : nI n - 10 = nI (n - 10) := pk_sub (b := 10) (by omega)
    rw [e2, wi_lit (a := 0) (b := 4) (by omega) (by decide) (by decide)]
    omega
section WR
variable {p : Program} {l : Launch} {e : Env} {R : Room} {s : State} {m : MethodId} {args : Array Value} {below : List Frame} {meth : Method} {c : Code} {H : Heap} {locs : List Loc} {cells slots : Nat} {Q : State → Prop}
variable {pc : Nat} {ls : Array Slot} {rest : List Value} {G : GG} {ws : va_W} {A : Nat → Prop} {y0 : MethodName} {b0 : ByteArray} {mL0 : Nat} {rt0 : Option FieldType} {a : Nat} {H0 : Heap}
theorem gX12_taken_0 : (decode cX12_taken 0 = .ok (.iload_n 1, 1)) ∧ (decode cX12_taken 1 = .ok (.invokestatic 336, 3)) ∧ (decode cX12_taken 4 = .ok (.ifCond .eq 24, 3)) ∧ (decode cX12_taken 7 = .ok (.iload_n 2, 1)) ∧ (decode cX12_taken 8 = .ok (.iconst 0, 1)) ∧ (decode cX12_taken 9 = .ok (.bipush 6, 2)) ∧ (decode cX12_taken 11 = .ok (.invokestatic 84, 3)) ∧ (decode cX12_taken 14 = .ok (.ifCond .ne 16, 3)) ∧ (decode cX12_taken 17 = .ok (.iload_n 2, 1)) ∧ (decode cX12_taken 18 = .ok (.bipush 10, 2)) := by decide +kernel
theorem gX12_taken_1 : (decode cX12_taken 20 = .ok (.bipush 14, 2)) ∧ (decode cX12_taken 22 = .ok (.invokestatic 84, 3)) ∧ (decode cX12_taken 25 = .ok (.ifCond .ne 5, 3)) ∧ (decode cX12_taken 28 = .ok (.iconst (-1), 1)) ∧ (decode cX12_taken 29 = .ok (.ireturn, 1)) ∧ (decode cX12_taken 30 = .ok (.aload_n 0, 1)) ∧ (decode cX12_taken 31 = .ok (.getfield 72, 3)) ∧ (decode cX12_taken 34 = .ok (.iload_n 1, 1)) ∧ (decode cX12_taken 35 = .ok (.iaload, 1)) ∧ (decode cX12_taken 36 = .ok (.iconst 4, 1)) := by decide +kernel
theorem gX12_taken_2 : (decode cX12_taken 37 = .ok (.if_icmp .ne 28, 3)) ∧ (decode cX12_taken 40 = .ok (.iload_n 2, 1)) ∧ (decode cX12_taken 41 = .ok (.bipush 10, 2)) ∧ (decode cX12_taken 43 = .ok (.isub, 1)) ∧ (decode cX12_taken 44 = .ok (.aload_n 0, 1)) ∧ (decode cX12_taken 45 = .ok (.getfield 75, 3)) ∧ (decode cX12_taken 48 = .ok (.iload_n 1, 1)) ∧ (decode cX12_taken 49 = .ok (.iaload, 1)) ∧ (decode cX12_taken 50 = .ok (.if_icmp .ne 12, 3)) ∧ (decode cX12_taken 53 = .ok (.aload_n 0, 1)) := by decide +kernel
theorem gX12_taken_3 : (decode cX12_taken 54 = .ok (.getfield 78, 3)) ∧ (decode cX12_taken 57 = .ok (.iload_n 1, 1)) ∧ (decode cX12_taken 58 = .ok (.iaload, 1)) ∧ (decode cX12_taken 59 = .ok (.goto 5, 3)) ∧ (decode cX12_taken 62 = .ok (.bipush (-13), 2)) ∧ (decode cX12_taken 64 = .ok (.ireturn, 1)) ∧ (decode cX12_taken 65 = .ok (.aload_n 0, 1)) ∧ (decode cX12_taken 66 = .ok (.iload_n 1, 1)) ∧ (decode cX12_taken 67 = .ok (.invokevirtual 345, 3)) ∧ (decode cX12_taken 70 = .ok (.istore_n 3, 1)) := by decide +kernel
theorem m_1387 : Cond.code yX12_kindOn cX12_kindOn 4 (some .int) ∈ BW := iB_BW74 _ (List.mem_of_getElem? (i := 3) rfl)
theorem m_1385 : Cond.methodLink RX12 345 yX12_kindOn ∈ BW := iB_BW74 _ (List.mem_of_getElem? (i := 1) rfl)
theorem m_1386 : Cond.instanceMethod yX12_kindOn ∈ BW := iB_BW74 _ (List.mem_of_getElem? (i := 2) rfl)
theorem m_97 : Cond.selects RX12 yX12_kindOn yX12_kindOn ∈ BW := iB_BW4 _ (List.mem_of_getElem? (i := 17) rfl)
theorem si_X12_345 : SV RX12 RX12 345 yX12_kindOn cX12_kindOn 4 (some .int) 1 := ⟨⟨m_1385, m_1386, m_97, m_115, m_1387⟩, rfl, nK_RX12.1, nK_RX12.2, pd_7⟩
theorem gX12_taken_4 : (decode cX12_taken 71 = .ok (.iload_n 3, 1)) ∧ (decode cX12_taken 72 = .ok (.ifCond .ge 6, 3)) ∧ (decode cX12_taken 75 = .ok (.bipush (-11), 2)) ∧ (decode cX12_taken 77 = .ok (.ireturn, 1)) ∧ (decode cX12_taken 78 = .ok (.iload_n 3, 1)) ∧ (decode cX12_taken 79 = .ok (.ifCond .lt 16, 3)) ∧ (decode cX12_taken 82 = .ok (.iload_n 3, 1)) ∧ (decode cX12_taken 83 = .ok (.iload_n 2, 1)) ∧ (decode cX12_taken 84 = .ok (.if_icmp .eq 11, 3)) ∧ (decode cX12_taken 87 = .ok (.iload_n 3, 1)) := by decide +kernel
theorem gX12_taken_5 : (decode cX12_taken 88 = .ok (.invokestatic 348, 3)) ∧ (decode cX12_taken 91 = .ok (.istore_n 3, 1)) ∧ (decode cX12_taken 92 = .ok (.goto (-14), 3)) ∧ (decode cX12_taken 95 = .ok (.iload_n 3, 1)) ∧ (decode cX12_taken 96 = .ok (.iload_n 2, 1)) ∧ (decode cX12_taken 97 = .ok (.if_icmp .ne 12, 3)) ∧ (decode cX12_taken 100 = .ok (.aload_n 0, 1)) ∧ (decode cX12_taken 101 = .ok (.getfield 75, 3)) ∧ (decode cX12_taken 104 = .ok (.iload_n 1, 1)) ∧ (decode cX12_taken 105 = .ok (.iaload, 1)) := by decide +kernel
theorem gX12_taken_6 : (decode cX12_taken 106 = .ok (.goto 5, 3)) ∧ (decode cX12_taken 109 = .ok (.bipush (-13), 2)) ∧ (decode cX12_taken 111 = .ok (.ireturn, 1)) := by decide +kernel
theorem m_1390 : Cond.code yX12_above cX12_above 1 (some .int) ∈ BW := iB_BW74 _ (List.mem_of_getElem? (i := 6) rfl)
theorem m_1388 : Cond.methodLink RX12 348 yX12_above ∈ BW := iB_BW74 _ (List.mem_of_getElem? (i := 4) rfl)
theorem m_1389 : Cond.static yX12_above ∈ BW := iB_BW74 _ (List.mem_of_getElem? (i := 5) rfl)
theorem si_X12_348 : SS RX12 348 yX12_above cX12_above 1 (some .int) 1 := ⟨⟨m_1388, m_1389, m_115, m_1390⟩, ⟨nK_RX12.1, nK_RX12.2, pd_7⟩⟩
end WR
theorem TK.cg {x1 x2 : Int32} {hw hn ht sh sf ss fp gp fs gs : Nat → Int32} {kp ks kf : Nat} (h : SLR hw hn ht sh sf ss) (hp : ∀ i, i < 72 → gp i = fp i) (hs : ∀ i, i < 128 → gs i = fs i) (hkp : kp ≤ 12) (hks : ks ≤ 16) : ifc (Wi x1 0 3) (ifc (Wi x2 0 6 ∨ Wi (x2 - 10) 0 4) (ifc (HLD (hw x1.toNatClampNeg) (hn x1.toNatClampNeg) kp ks kf = 4) (-11) (ifc (hw x1.toNatClampNeg = 3) (ifc (ht x1.toNatClampNeg = x2 - 10) (hn x1.toNatClampNeg) (-13)) (ifc (UNl (KNn (hw x1.toNatClampNeg) (hn x1.toNatClampNeg).toNatClampNeg fp fs) x2) (hn x1.toNatClampNeg) (-13)))) (-1)) (-1) = ifc (Wi x1 0 3) (ifc (Wi x2 0 6 ∨ Wi x2 10 14) (ifc (sh x1.toNatClampNeg = 4) (ifc (x2 - 10 = sf x1.toNatClampNeg) (ss x1.toNatClampNeg) (-13)) (ifc (KOM (sh x1.toNatClampNeg) (sf x1.toNatClampNeg) kp ks kf gp gs < 0) (-11) (ifc (UNl (KOM (sh x1.toNatClampNeg) (sf x1.toNatClampNeg) kp ks kf gp gs).toNatClampNeg x2) (sf x1.toNatClampNeg) (-13)))) (-1)) (-1) := by
  by_cases c1 : Wi x1 0 3
  · rw [ifc_t c1, ifc_t c1]
    obtain ⟨j, hj, rfl⟩ := Wi3 c1
    rw [nI_clamp (n := j) (by omega)]
    have hc : (Wi x2 0 6 ∨ Wi (x2 - 10) 0 4) = (Wi x2 0 6 ∨ Wi x2 10 14) := by rw [propext wi_ten]
    rw [hc]
    refine ifc_cg fun _ => ?_
    have n34 : ¬ (3 : Int32) = 4 := by decide
    rcases h j hj with ⟨a1, a2⟩ | ⟨a1, a2, a3⟩ | ⟨a1, a2, a3⟩ | ⟨a1, a2, a3⟩ | ⟨a1, a2, a3, a4, a5⟩
    · have e1 : HLD 4 (hn j) kp ks kf = 4 := by unfold HLD; rw [ifc_f (q := (4 : Int32) = 0) (by decide), ifc_f (q := (4 : Int32) = 1) (by decide), ifc_f (q := (4 : Int32) = 2) (by decide)]
      have e2 : KOM 0 (sf j) kp ks kf gp gs = (-1) := by unfold KOM; rw [ifc_f (q := (0 : Int32) = 1) (by decide), ifc_f (q := (0 : Int32) = 2) (by decide), ifc_f (q := (0 : Int32) = 3) (by decide)]
      rw [a1, a2, e1, e2, ifc_t (q := (4 : Int32) = 4) rfl, ifc_f (q := (0 : Int32) = 4) (by decide), ifc_t (q := (-1 : Int32) < 0) (by decide)]
    · have e1 : HLD 0 (sf j) kp ks kf = ifc (Hs (sf j) kp) 0 4 := by unfold HLD; rw [ifc_t (q := (0 : Int32) = 0) rfl]
      have e2 : KOM 1 (sf j) kp ks kf gp gs = ifc (Hs (sf j) kp) (nI (PKn (gp ((sf j).toNatClampNeg * 6 + 1)) (gp ((sf j).toNatClampNeg * 6 + 0)) (gp ((sf j).toNatClampNeg * 6 + 3)))) (-1) := by unfold KOM; rw [ifc_t (q := (1 : Int32) = 1) rfl]
      rw [a1, a2, a3, ifc_f (q := (1 : Int32) = 4) (by decide), e1, e2]
      by_cases c2 : Hs (sf j) kp
      · have e3 : KNn 0 (sf j).toNatClampNeg fp fs = PKn (gp ((sf j).toNatClampNeg * 6 + 1)) (gp ((sf j).toNatClampNeg * 6 + 0)) (gp ((sf j).toNatClampNeg * 6 + 3)) := by
          have hb := Hs_at (by omega) c2
          unfold KNn
          rw [ifn_t (q := (0 : Int32) = 0) rfl, hp ((sf j).toNatClampNeg * 6 + 1) (by omega), hp ((sf j).toNatClampNeg * 6 + 0) (by omega), hp ((sf j).toNatClampNeg * 6 + 3) (by omega)]
        have hl : PKn (gp ((sf j).toNatClampNeg * 6 + 1)) (gp ((sf j).toNatClampNeg * 6 + 0)) (gp ((sf j).toNatClampNeg * 6 + 3)) < 7 := PKn.lt
        rw [ifc_t c2, ifc_t c2, ifc_f (q := (0 : Int32) = 4) (by decide), ifc_f (q := (0 : Int32) = 3) (by decide), e3, ifc_f (q := nI (PKn (gp ((sf j).toNatClampNeg * 6 + 1)) (gp ((sf j).toNatClampNeg * 6 + 0)) (gp ((sf j).toNatClampNeg * 6 + 3))) < 0) (nI_nn (by omega)), nI_clamp (n := PKn (gp ((sf j).toNatClampNeg * 6 + 1)) (gp ((sf j).toNatClampNeg * 6 + 0)) (gp ((sf j).toNatClampNeg * 6 + 3))) (by omega)]
      · rw [ifc_f c2, ifc_f c2, ifc_t (q := (4 : Int32) = 4) rfl, ifc_t (q := (-1 : Int32) < 0) (by decide)]
    · have e1 : HLD 1 (sf j) kp ks kf = ifc (Hs (sf j) ks) 1 4 := by unfold HLD; rw [ifc_f (q := (1 : Int32) = 0) (by decide), ifc_t (q := (1 : Int32) = 1) rfl]
      have e2 : KOM 2 (sf j) kp ks kf gp gs = ifc (Hs (sf j) ks) (nI (SKn (gs ((sf j).toNatClampNeg * 8 + 6)))) (-1) := by unfold KOM; rw [ifc_f (q := (2 : Int32) = 1) (by decide), ifc_t (q := (2 : Int32) = 2) rfl]
      rw [a1, a2, a3, ifc_f (q := (2 : Int32) = 4) (by decide), e1, e2]
      by_cases c2 : Hs (sf j) ks
      · have e3 : KNn 1 (sf j).toNatClampNeg fp fs = SKn (gs ((sf j).toNatClampNeg * 8 + 6)) := by
          have hb := Hs_at (by omega) c2
          unfold KNn
          rw [ifn_f (q := (1 : Int32) = 0) (by decide), ifn_t (q := (1 : Int32) = 1) rfl, hs ((sf j).toNatClampNeg * 8 + 6) (by omega)]
        have hl : SKn (gs ((sf j).toNatClampNeg * 8 + 6)) < 7 := SKn.lt
        rw [ifc_t c2, ifc_t c2, ifc_f (q := (1 : Int32) = 4) (by decide), ifc_f (q := (1 : Int32) = 3) (by decide), e3, ifc_f (q := nI (SKn (gs ((sf j).toNatClampNeg * 8 + 6))) < 0) (nI_nn (by omega)), nI_clamp (n := SKn (gs ((sf j).toNatClampNeg * 8 + 6))) (by omega)]
      · rw [ifc_f c2, ifc_f c2, ifc_t (q := (4 : Int32) = 4) rfl, ifc_t (q := (-1 : Int32) < 0) (by decide)]
    · have e1 : HLD 2 (sf j) kp ks kf = ifc (Hs (sf j) kf) 2 4 := by unfold HLD; rw [ifc_f (q := (2 : Int32) = 0) (by decide), ifc_f (q := (2 : Int32) = 1) (by decide), ifc_t (q := (2 : Int32) = 2) rfl]
      have e2 : KOM 3 (sf j) kp ks kf gp gs = ifc (Hs (sf j) kf) 6 (-1) := by unfold KOM; rw [ifc_f (q := (3 : Int32) = 1) (by decide), ifc_f (q := (3 : Int32) = 2) (by decide), ifc_t (q := (3 : Int32) = 3) rfl]
      rw [a1, a2, a3, ifc_f n34, e1, e2]
      by_cases c2 : Hs (sf j) kf
      · have e3 : KNn 2 (sf j).toNatClampNeg fp fs = 6 := by unfold KNn; rw [ifn_f (q := (2 : Int32) = 0) (by decide), ifn_f (q := (2 : Int32) = 1) (by decide)]
        have e6 : (6 : Int32).toNatClampNeg = 6 := by decide
        rw [ifc_t c2, ifc_t c2, ifc_f (q := (2 : Int32) = 4) (by decide), ifc_f (q := (2 : Int32) = 3) (by decide), e3, ifc_f (q := (6 : Int32) < 0) (by decide), e6]
      · rw [ifc_f c2, ifc_f c2, ifc_t (q := (4 : Int32) = 4) rfl, ifc_t (q := (-1 : Int32) < 0) (by decide)]
    · have e1 : HLD 3 (hn j) kp ks kf = 3 := by unfold HLD; rw [ifc_f (q := (3 : Int32) = 0) (by decide), ifc_f (q := (3 : Int32) = 1) (by decide), ifc_f (q := (3 : Int32) = 2) (by decide)]
      rw [a1, a2, e1, ifc_f n34, ifc_t (q := (3 : Int32) = 3) rfl, ifc_t (q := (4 : Int32) = 4) rfl, a3, a4]
      by_cases c5 : sf j = x2 - 10
      · rw [ifc_t c5, ifc_t c5.symm]
      · rw [ifc_f c5, ifc_f (fun h9 => c5 h9.symm)]
  · rw [ifc_f c1, ifc_f c1]
section WR
variable {p : Program} {l : Launch} {e : Env} {R : Room} {s : State} {m : MethodId} {args : Array Value} {below : List Frame} {meth : Method} {c : Code} {H : Heap} {locs : List Loc} {cells slots : Nat} {Q : State → Prop}
variable {pc : Nat} {ls : Array Slot} {rest : List Value} {G : GG} {ws : va_W} {A : Nat → Prop} {y0 : MethodName} {b0 : ByteArray} {mL0 : Nat} {rt0 : Option FieldType} {a : Nat} {H0 : Heap}
theorem gX12_began_0 : (decode cX12_began 0 = .ok (.aload_n 0, 1)) ∧ (decode cX12_began 1 = .ok (.getfield 351, 3)) ∧ (decode cX12_began 4 = .ok (.bipush 30, 2)) ∧ (decode cX12_began 6 = .ok (.if_icmp .ge 23, 3)) ∧ (decode cX12_began 9 = .ok (.aload_n 0, 1)) ∧ (decode cX12_began 10 = .ok (.getfield 81, 3)) ∧ (decode cX12_began 13 = .ok (.aload_n 0, 1)) ∧ (decode cX12_began 14 = .ok (.getfield 351, 3)) ∧ (decode cX12_began 17 = .ok (.iload_n 1, 1)) ∧ (decode cX12_began 18 = .ok (.iastore, 1)) := by decide +kernel
theorem m_1065 : Cond.fieldLink RX12 351 "InquiryBenchModel" "traced" "I" ∈ BW := iB_BW56 _ (List.mem_of_getElem? (i := 14) rfl)
theorem gf_X12_351 (hC : CX p s m meth c y0 b0 mL0 rt0 args) (hy0 : y0.cls = RX12) (hK : KK G s) (hP : va_P G.1 vwCl ws H) (q0 : Nat) {fs : List Value} {v : Value} (he : ws[q0]? = some (a, .inr (12, fs))) (hv : fs[35]? = some v) (hdg : decode b0 pc = .ok (.getfield 351, 3)) (kk : W p l e R s m args below meth c H locs cells slots Q (F0 m (pc + 3) ls (v :: rest))) : W p l e R s m args below meth c H locs cells slots Q (F0 m pc ls (.ref a :: rest)) := by
  obtain ⟨hx, hb, hr, hml, hB, hown, hlocks, hnm⟩ := hC
  rw [hy0] at hown
  exact va_get (ci := 12) (C := RX12) (T := TX12) (N := 41) hx hb hB in_X12 hown hK.1 hP q0 he rfl 35 (by decide) (hB _ m_1065) (fun _ h => h) hv hdg kk
theorem gX12_began_1 : (decode cX12_began 19 = .ok (.aload_n 0, 1)) ∧ (decode cX12_began 20 = .ok (.dup, 1)) ∧ (decode cX12_began 21 = .ok (.getfield 351, 3)) ∧ (decode cX12_began 24 = .ok (.iconst 1, 1)) ∧ (decode cX12_began 25 = .ok (.iadd, 1)) ∧ (decode cX12_began 26 = .ok (.putfield 351, 3)) ∧ (decode cX12_began 29 = .ok (.return_, 1)) := by decide +kernel
theorem m_1064 : Cond.fieldLink RX12 81 "InquiryBenchModel" "trace" "[I" ∈ BW := iB_BW56 _ (List.mem_of_getElem? (i := 13) rfl)
theorem gf_X12_81 (hC : CX p s m meth c y0 b0 mL0 rt0 args) (hy0 : y0.cls = RX12) (hK : KK G s) (hP : va_P G.1 vwCl ws H) (q0 : Nat) {fs : List Value} {v : Value} (he : ws[q0]? = some (a, .inr (12, fs))) (hv : fs[34]? = some v) (hdg : decode b0 pc = .ok (.getfield 81, 3)) (kk : W p l e R s m args below meth c H locs cells slots Q (F0 m (pc + 3) ls (v :: rest))) : W p l e R s m args below meth c H locs cells slots Q (F0 m pc ls (.ref a :: rest)) := by
  obtain ⟨hx, hb, hr, hml, hB, hown, hlocks, hnm⟩ := hC
  rw [hy0] at hown
  exact va_get (ci := 12) (C := RX12) (T := TX12) (N := 41) hx hb hB in_X12 hown hK.1 hP q0 he rfl 34 (by decide) (hB _ m_1064) (fun _ h => h) hv hdg kk
theorem pf_X12_351 (hC : CX p s m meth c y0 b0 mL0 rt0 args) (hy0 : y0.cls = RX12) (hK : KK G s) (hP : va_P G.1 vwCl ws H) (hD : va_D A ws) (hS : va_S A H0 H locs) (q0 : Nat) {fs : List Value} {v : Value} {ws' : va_W} (he : ws[q0]? = some (a, .inr (12, fs))) (hl : 35 < fs.length) (hws : ws.set q0 (a, .inr (12, fs.set 35 v)) = ws') (hn : narrow .int v = v) (hfit : fits .int v = true) (hdg : decode b0 pc = .ok (.putfield 351, 3)) (kk : ∀ (H1 : Heap) (locs1 : List Loc), va_P G.1 vwCl ws' H1 → va_D A ws' → va_S A H0 H1 locs1 → W p l e R s m args below meth c H1 locs1 cells slots Q (F0 m (pc + 3) ls rest)) : W p l e R s m args below meth c H locs cells slots Q (F0 m pc ls (v :: .ref a :: rest)) := by
  obtain ⟨hx, hb, hr, hml, hB, hown, hlocks, hnm⟩ := hC
  rw [hy0] at hown
  subst hws
  exact va_put (ci := 12) (ty := .int) (C := RX12) (T := TX12) (N := 41) hx hb hB in_X12 tyX12 tyX12_ok nmX12 hown hK.1 hP hD hS q0 he rfl 35 (by decide) (hB _ m_1065) (fun _ h => h) rfl (by decide +kernel) hn hfit hl hdg kk
end WR
theorem nz_sub {a b : Int32} (h : ¬ a = b) : ¬ a - b = 0 := by
  intro h9
  apply h
  have e : a - b + b = 0 + b := by rw [h9]
  rw [Int32.sub_add_cancel, Int32.zero_add] at e
  exact e
section WR
variable {p : Program} {l : Launch} {e : Env} {R : Room} {s : State} {m : MethodId} {args : Array Value} {below : List Frame} {meth : Method} {c : Code} {H : Heap} {locs : List Loc} {cells slots : Nat} {Q : State → Prop}
variable {pc : Nat} {ls : Array Slot} {rest : List Value} {G : GG} {ws : va_W} {A : Nat → Prop} {y0 : MethodName} {b0 : ByteArray} {mL0 : Nat} {rt0 : Option FieldType} {a : Nat} {H0 : Heap}
theorem gX12_body_0 : (decode cX12_body 0 = .ok (.iconst 4, 1)) ∧ (decode cX12_body 1 = .ok (.iload_n 1, 1)) ∧ (decode cX12_body 2 = .ok (.imul, 1)) ∧ (decode cX12_body 3 = .ok (.iload_n 2, 1)) ∧ (decode cX12_body 4 = .ok (.iadd, 1)) ∧ (decode cX12_body 5 = .ok (.tableswitch 348 0 22 #[107, 120, 135, 153, 348, 202, 348, 348, 348, 348, 221, 348, 348, 237, 348, 253, 269, 348, 288, 348, 329, 348, 313], 107)) ∧ (decode cX12_body 112 = .ok (.aload_n 0, 1)) ∧ (decode cX12_body 113 = .ok (.bipush 10, 2)) ∧ (decode cX12_body 115 = .ok (.invokevirtual 366, 3)) ∧ (decode cX12_body 118 = .ok (.iload_n 3, 1)) := by decide +kernel
theorem m_1409 : Cond.code yX12_began cX12_began 2 none ∈ BW := iB_BW75 _ (List.mem_of_getElem? (i := 5) rfl)
theorem m_1407 : Cond.methodLink RX12 366 yX12_began ∈ BW := iB_BW75 _ (List.mem_of_getElem? (i := 3) rfl)
theorem m_1408 : Cond.instanceMethod yX12_began ∈ BW := iB_BW75 _ (List.mem_of_getElem? (i := 4) rfl)
theorem m_101 : Cond.selects RX12 yX12_began yX12_began ∈ BW := iB_BW5 _ (List.mem_of_getElem? (i := 1) rfl)
theorem si_X12_366 : SV RX12 RX12 366 yX12_began cX12_began 2 none 1 := ⟨⟨m_1407, m_1408, m_101, m_115, m_1409⟩, rfl, nK_RX12.1, nK_RX12.2, pd_18⟩
theorem gX12_body_1 : (decode cX12_body 119 = .ok (.aload_n 0, 1)) ∧ (decode cX12_body 120 = .ok (.getfield 369, 3)) ∧ (decode cX12_body 123 = .ok (.iadd, 1)) ∧ (decode cX12_body 124 = .ok (.ireturn, 1)) ∧ (decode cX12_body 125 = .ok (.aload_n 0, 1)) ∧ (decode cX12_body 126 = .ok (.bipush 11, 2)) ∧ (decode cX12_body 128 = .ok (.invokevirtual 366, 3)) ∧ (decode cX12_body 131 = .ok (.aload_n 0, 1)) ∧ (decode cX12_body 132 = .ok (.iconst 0, 1)) ∧ (decode cX12_body 133 = .ok (.iload_n 3, 1)) := by decide +kernel
theorem m_1069 : Cond.fieldLink RX12 369 "InquiryBenchModel" "size" "I" ∈ BW := iB_BW56 _ (List.mem_of_getElem? (i := 18) rfl)
theorem gf_X12_369 (hC : CX p s m meth c y0 b0 mL0 rt0 args) (hy0 : y0.cls = RX12) (hK : KK G s) (hP : va_P G.1 vwCl ws H) (q0 : Nat) {fs : List Value} {v : Value} (he : ws[q0]? = some (a, .inr (12, fs))) (hv : fs[39]? = some v) (hdg : decode b0 pc = .ok (.getfield 369, 3)) (kk : W p l e R s m args below meth c H locs cells slots Q (F0 m (pc + 3) ls (v :: rest))) : W p l e R s m args below meth c H locs cells slots Q (F0 m pc ls (.ref a :: rest)) := by
  obtain ⟨hx, hb, hr, hml, hB, hown, hlocks, hnm⟩ := hC
  rw [hy0] at hown
  exact va_get (ci := 12) (C := RX12) (T := TX12) (N := 41) hx hb hB in_X12 hown hK.1 hP q0 he rfl 39 (by decide) (hB _ m_1069) (fun _ h => h) hv hdg kk
theorem gX12_bodyFrom_0 : (decode cX12_bodyFrom 0 = .ok (.iload_n 1, 1)) ∧ (decode cX12_bodyFrom 1 = .ok (.istore 4, 2)) ∧ (decode cX12_bodyFrom 3 = .ok (.iload 4, 2)) ∧ (decode cX12_bodyFrom 5 = .ok (.iload_n 2, 1)) ∧ (decode cX12_bodyFrom 6 = .ok (.invokestatic 360, 3)) ∧ (decode cX12_bodyFrom 9 = .ok (.ifCond .ne 13, 3)) ∧ (decode cX12_bodyFrom 12 = .ok (.iload 4, 2)) ∧ (decode cX12_bodyFrom 14 = .ok (.invokestatic 348, 3)) ∧ (decode cX12_bodyFrom 17 = .ok (.istore 4, 2)) ∧ (decode cX12_bodyFrom 19 = .ok (.goto (-16), 3)) := by decide +kernel
theorem m_1403 : Cond.code yX12_hasOwn cX12_hasOwn 2 (some .boolean) ∈ BW := iB_BW74 _ (List.mem_of_getElem? (i := 19) rfl)
theorem m_1401 : Cond.methodLink RX12 360 yX12_hasOwn ∈ BW := iB_BW74 _ (List.mem_of_getElem? (i := 17) rfl)
theorem m_1402 : Cond.static yX12_hasOwn ∈ BW := iB_BW74 _ (List.mem_of_getElem? (i := 18) rfl)
theorem si_X12_360 : SS RX12 360 yX12_hasOwn cX12_hasOwn 2 (some .boolean) 2 := ⟨⟨m_1401, m_1402, m_115, m_1403⟩, ⟨nK_RX12.1, nK_RX12.2, pd_3⟩⟩
theorem gX12_bodyFrom_1 : (decode cX12_bodyFrom 22 = .ok (.aload_n 0, 1)) ∧ (decode cX12_bodyFrom 23 = .ok (.iload 4, 2)) ∧ (decode cX12_bodyFrom 25 = .ok (.iload_n 2, 1)) ∧ (decode cX12_bodyFrom 26 = .ok (.iload_n 3, 1)) ∧ (decode cX12_bodyFrom 27 = .ok (.invokevirtual 363, 3)) ∧ (decode cX12_bodyFrom 30 = .ok (.ireturn, 1)) := by decide +kernel
theorem m_1406 : Cond.code yX12_body cX12_body 6 (some .int) ∈ BW := iB_BW75 _ (List.mem_of_getElem? (i := 2) rfl)
theorem m_1404 : Cond.methodLink RX12 363 yX12_body ∈ BW := iB_BW75 _ (List.mem_of_getElem? (i := 0) rfl)
theorem m_1405 : Cond.instanceMethod yX12_body ∈ BW := iB_BW75 _ (List.mem_of_getElem? (i := 1) rfl)
theorem m_100 : Cond.selects RX12 yX12_body yX12_body ∈ BW := iB_BW5 _ (List.mem_of_getElem? (i := 0) rfl)
theorem si_X12_363 : SV RX12 RX12 363 yX12_body cX12_body 6 (some .int) 3 := ⟨⟨m_1404, m_1405, m_100, m_115, m_1406⟩, rfl, nK_RX12.1, nK_RX12.2, pd_19⟩
theorem gX12_body_10 : (decode cX12_body 266 = .ok (.iconst 3, 1)) ∧ (decode cX12_body 267 = .ok (.iload_n 3, 1)) ∧ (decode cX12_body 268 = .ok (.iconst 2, 1)) ∧ (decode cX12_body 269 = .ok (.iadd, 1)) ∧ (decode cX12_body 270 = .ok (.invokevirtual 357, 3)) ∧ (decode cX12_body 273 = .ok (.ireturn, 1)) ∧ (decode cX12_body 274 = .ok (.aload_n 0, 1)) ∧ (decode cX12_body 275 = .ok (.bipush 50, 2)) ∧ (decode cX12_body 277 = .ok (.invokevirtual 366, 3)) ∧ (decode cX12_body 280 = .ok (.aload_n 0, 1)) := by decide +kernel
theorem gX12_body_11 : (decode cX12_body 281 = .ok (.iconst 0, 1)) ∧ (decode cX12_body 282 = .ok (.iconst 0, 1)) ∧ (decode cX12_body 283 = .ok (.iload_n 3, 1)) ∧ (decode cX12_body 284 = .ok (.invokevirtual 357, 3)) ∧ (decode cX12_body 287 = .ok (.aload_n 0, 1)) ∧ (decode cX12_body 288 = .ok (.getfield 378, 3)) ∧ (decode cX12_body 291 = .ok (.isub, 1)) ∧ (decode cX12_body 292 = .ok (.ireturn, 1)) ∧ (decode cX12_body 293 = .ok (.aload_n 0, 1)) ∧ (decode cX12_body 294 = .ok (.bipush 51, 2)) := by decide +kernel
theorem m_1400 : Cond.code yX12_bodyFrom cX12_bodyFrom 5 (some .int) ∈ BW := iB_BW74 _ (List.mem_of_getElem? (i := 16) rfl)
theorem m_1398 : Cond.methodLink RX12 357 yX12_bodyFrom ∈ BW := iB_BW74 _ (List.mem_of_getElem? (i := 14) rfl)
theorem m_1399 : Cond.instanceMethod yX12_bodyFrom ∈ BW := iB_BW74 _ (List.mem_of_getElem? (i := 15) rfl)
theorem m_99 : Cond.selects RX12 yX12_bodyFrom yX12_bodyFrom ∈ BW := iB_BW4 _ (List.mem_of_getElem? (i := 19) rfl)
theorem si_X12_357 : SV RX12 RX12 357 yX12_bodyFrom cX12_bodyFrom 5 (some .int) 3 := ⟨⟨m_1398, m_1399, m_99, m_115, m_1400⟩, rfl, nK_RX12.1, nK_RX12.2, pd_19⟩
theorem m_1067 : Cond.fieldLink RX12 378 "InquiryBenchModel" "numbe\x72" "I" ∈ BW := iB_BW56 _ (List.mem_of_getElem? (i := 16) rfl)
theorem gf_X12_378 (hC : CX p s m meth c y0 b0 mL0 rt0 args) (hy0 : y0.cls = RX12) (hK : KK G s) (hP : va_P G.1 vwCl ws H) (q0 : Nat) {fs : List Value} {v : Value} (he : ws[q0]? = some (a, .inr (12, fs))) (hv : fs[37]? = some v) (hdg : decode b0 pc = .ok (.getfield 378, 3)) (kk : W p l e R s m args below meth c H locs cells slots Q (F0 m (pc + 3) ls (v :: rest))) : W p l e R s m args below meth c H locs cells slots Q (F0 m pc ls (.ref a :: rest)) := by
  obtain ⟨hx, hb, hr, hml, hB, hown, hlocks, hnm⟩ := hC
  rw [hy0] at hown
  exact va_get (ci := 12) (C := RX12) (T := TX12) (N := 41) hx hb hB in_X12 hown hK.1 hP q0 he rfl 37 (by decide) (hB _ m_1067) (fun _ h => h) hv hdg kk
theorem gX12_body_14 : (decode cX12_body 327 = .ok (.iload_n 3, 1)) ∧ (decode cX12_body 328 = .ok (.invokevirtual 357, 3)) ∧ (decode cX12_body 331 = .ok (.iconst 2, 1)) ∧ (decode cX12_body 332 = .ok (.imul, 1)) ∧ (decode cX12_body 333 = .ok (.ireturn, 1)) ∧ (decode cX12_body 334 = .ok (.aload_n 0, 1)) ∧ (decode cX12_body 335 = .ok (.bipush 61, 2)) ∧ (decode cX12_body 337 = .ok (.invokevirtual 366, 3)) ∧ (decode cX12_body 340 = .ok (.aload_n 0, 1)) ∧ (decode cX12_body 341 = .ok (.iconst 4, 1)) := by decide +kernel
theorem gX12_body_15 : (decode cX12_body 342 = .ok (.iconst 0, 1)) ∧ (decode cX12_body 343 = .ok (.iload_n 3, 1)) ∧ (decode cX12_body 344 = .ok (.aload_n 0, 1)) ∧ (decode cX12_body 345 = .ok (.getfield 375, 3)) ∧ (decode cX12_body 348 = .ok (.iadd, 1)) ∧ (decode cX12_body 349 = .ok (.invokevirtual 357, 3)) ∧ (decode cX12_body 352 = .ok (.ireturn, 1)) ∧ (decode cX12_body 353 = .ok (.aload_n 0, 1)) ∧ (decode cX12_body 354 = .ok (.bipush 70, 2)) ∧ (decode cX12_body 356 = .ok (.invokevirtual 366, 3)) := by decide +kernel
theorem m_1068 : Cond.fieldLink RX12 375 "InquiryBenchModel" "whose" "I" ∈ BW := iB_BW56 _ (List.mem_of_getElem? (i := 17) rfl)
theorem gf_X12_375 (hC : CX p s m meth c y0 b0 mL0 rt0 args) (hy0 : y0.cls = RX12) (hK : KK G s) (hP : va_P G.1 vwCl ws H) (q0 : Nat) {fs : List Value} {v : Value} (he : ws[q0]? = some (a, .inr (12, fs))) (hv : fs[38]? = some v) (hdg : decode b0 pc = .ok (.getfield 375, 3)) (kk : W p l e R s m args below meth c H locs cells slots Q (F0 m (pc + 3) ls (v :: rest))) : W p l e R s m args below meth c H locs cells slots Q (F0 m pc ls (.ref a :: rest)) := by
  obtain ⟨hx, hb, hr, hml, hB, hown, hlocks, hnm⟩ := hC
  rw [hy0] at hown
  exact va_get (ci := 12) (C := RX12) (T := TX12) (N := 41) hx hb hB in_X12 hown hK.1 hP q0 he rfl 38 (by decide) (hB _ m_1068) (fun _ h => h) hv hdg kk
theorem gX12_dealt_0 : (decode cX12_dealt 0 = .ok (.aload_n 0, 1)) ∧ (decode cX12_dealt 1 = .ok (.aload_n 0, 1)) ∧ (decode cX12_dealt 2 = .ok (.getfield 354, 3)) ∧ (decode cX12_dealt 5 = .ok (.iload_n 1, 1)) ∧ (decode cX12_dealt 6 = .ok (.iload_n 2, 1)) ∧ (decode cX12_dealt 7 = .ok (.invokevirtual 357, 3)) ∧ (decode cX12_dealt 10 = .ok (.ireturn, 1)) := by decide +kernel
theorem m_1066 : Cond.fieldLink RX12 354 "InquiryBenchModel" "deale\x72" "I" ∈ BW := iB_BW56 _ (List.mem_of_getElem? (i := 15) rfl)
theorem gf_X12_354 (hC : CX p s m meth c y0 b0 mL0 rt0 args) (hy0 : y0.cls = RX12) (hK : KK G s) (hP : va_P G.1 vwCl ws H) (q0 : Nat) {fs : List Value} {v : Value} (he : ws[q0]? = some (a, .inr (12, fs))) (hv : fs[36]? = some v) (hdg : decode b0 pc = .ok (.getfield 354, 3)) (kk : W p l e R s m args below meth c H locs cells slots Q (F0 m (pc + 3) ls (v :: rest))) : W p l e R s m args below meth c H locs cells slots Q (F0 m pc ls (.ref a :: rest)) := by
  obtain ⟨hx, hb, hr, hml, hB, hown, hlocks, hnm⟩ := hC
  rw [hy0] at hown
  exact va_get (ci := 12) (C := RX12) (T := TX12) (N := 41) hx hb hB in_X12 hown hK.1 hP q0 he rfl 36 (by decide) (hB _ m_1066) (fun _ h => h) hv hdg kk
theorem gX12_body_2 : (decode cX12_body 134 = .ok (.invokevirtual 372, 3)) ∧ (decode cX12_body 137 = .ok (.iconst 2, 1)) ∧ (decode cX12_body 138 = .ok (.imul, 1)) ∧ (decode cX12_body 139 = .ok (.ireturn, 1)) ∧ (decode cX12_body 140 = .ok (.aload_n 0, 1)) ∧ (decode cX12_body 141 = .ok (.bipush 12, 2)) ∧ (decode cX12_body 143 = .ok (.invokevirtual 366, 3)) ∧ (decode cX12_body 146 = .ok (.aload_n 0, 1)) ∧ (decode cX12_body 147 = .ok (.iconst 1, 1)) ∧ (decode cX12_body 148 = .ok (.iload_n 3, 1)) := by decide +kernel
theorem m_1397 : Cond.code yX12_dealt cX12_dealt 3 (some .int) ∈ BW := iB_BW74 _ (List.mem_of_getElem? (i := 13) rfl)
theorem m_1395 : Cond.methodLink RX12 372 yX12_dealt ∈ BW := iB_BW74 _ (List.mem_of_getElem? (i := 11) rfl)
theorem m_1396 : Cond.instanceMethod yX12_dealt ∈ BW := iB_BW74 _ (List.mem_of_getElem? (i := 12) rfl)
theorem m_98 : Cond.selects RX12 yX12_dealt yX12_dealt ∈ BW := iB_BW4 _ (List.mem_of_getElem? (i := 18) rfl)
theorem si_X12_372 : SV RX12 RX12 372 yX12_dealt cX12_dealt 3 (some .int) 2 := ⟨⟨m_1395, m_1396, m_98, m_115, m_1397⟩, rfl, nK_RX12.1, nK_RX12.2, pd_2⟩
theorem gX12_body_6 : (decode cX12_body 206 = .ok (.ireturn, 1)) ∧ (decode cX12_body 207 = .ok (.aload_n 0, 1)) ∧ (decode cX12_body 208 = .ok (.bipush 20, 2)) ∧ (decode cX12_body 210 = .ok (.invokevirtual 366, 3)) ∧ (decode cX12_body 213 = .ok (.aload_n 0, 1)) ∧ (decode cX12_body 214 = .ok (.iconst 0, 1)) ∧ (decode cX12_body 215 = .ok (.iconst 1, 1)) ∧ (decode cX12_body 216 = .ok (.iload_n 3, 1)) ∧ (decode cX12_body 217 = .ok (.invokevirtual 357, 3)) ∧ (decode cX12_body 220 = .ok (.aload_n 0, 1)) := by decide +kernel
theorem gX12_body_7 : (decode cX12_body 221 = .ok (.getfield 378, 3)) ∧ (decode cX12_body 224 = .ok (.ixor, 1)) ∧ (decode cX12_body 225 = .ok (.ireturn, 1)) ∧ (decode cX12_body 226 = .ok (.aload_n 0, 1)) ∧ (decode cX12_body 227 = .ok (.bipush 30, 2)) ∧ (decode cX12_body 229 = .ok (.invokevirtual 366, 3)) ∧ (decode cX12_body 232 = .ok (.aload_n 0, 1)) ∧ (decode cX12_body 233 = .ok (.iconst 0, 1)) ∧ (decode cX12_body 234 = .ok (.iconst 2, 1)) ∧ (decode cX12_body 235 = .ok (.iload_n 3, 1)) := by decide +kernel
theorem gX12_body_8 : (decode cX12_body 236 = .ok (.invokevirtual 357, 3)) ∧ (decode cX12_body 239 = .ok (.iconst 3, 1)) ∧ (decode cX12_body 240 = .ok (.imul, 1)) ∧ (decode cX12_body 241 = .ok (.ireturn, 1)) ∧ (decode cX12_body 242 = .ok (.aload_n 0, 1)) ∧ (decode cX12_body 243 = .ok (.bipush 40, 2)) ∧ (decode cX12_body 245 = .ok (.invokevirtual 366, 3)) ∧ (decode cX12_body 248 = .ok (.iconst 0, 1)) ∧ (decode cX12_body 249 = .ok (.aload_n 0, 1)) ∧ (decode cX12_body 250 = .ok (.iconst 1, 1)) := by decide +kernel
theorem gX12_body_9 : (decode cX12_body 251 = .ok (.iconst 1, 1)) ∧ (decode cX12_body 252 = .ok (.iload_n 3, 1)) ∧ (decode cX12_body 253 = .ok (.invokevirtual 357, 3)) ∧ (decode cX12_body 256 = .ok (.isub, 1)) ∧ (decode cX12_body 257 = .ok (.ireturn, 1)) ∧ (decode cX12_body 258 = .ok (.aload_n 0, 1)) ∧ (decode cX12_body 259 = .ok (.bipush 41, 2)) ∧ (decode cX12_body 261 = .ok (.invokevirtual 366, 3)) ∧ (decode cX12_body 264 = .ok (.aload_n 0, 1)) ∧ (decode cX12_body 265 = .ok (.iconst 1, 1)) := by decide +kernel
theorem gX12_body_3 : (decode cX12_body 149 = .ok (.invokevirtual 372, 3)) ∧ (decode cX12_body 152 = .ok (.aload_n 0, 1)) ∧ (decode cX12_body 153 = .ok (.getfield 375, 3)) ∧ (decode cX12_body 156 = .ok (.isub, 1)) ∧ (decode cX12_body 157 = .ok (.ireturn, 1)) ∧ (decode cX12_body 158 = .ok (.aload_n 0, 1)) ∧ (decode cX12_body 159 = .ok (.bipush 13, 2)) ∧ (decode cX12_body 161 = .ok (.invokevirtual 366, 3)) ∧ (decode cX12_body 164 = .ok (.aload_n 0, 1)) ∧ (decode cX12_body 165 = .ok (.aload_n 0, 1)) := by decide +kernel
theorem gX12_body_12 : (decode cX12_body 296 = .ok (.invokevirtual 366, 3)) ∧ (decode cX12_body 299 = .ok (.aload_n 0, 1)) ∧ (decode cX12_body 300 = .ok (.iconst 0, 1)) ∧ (decode cX12_body 301 = .ok (.iconst 2, 1)) ∧ (decode cX12_body 302 = .ok (.iload_n 3, 1)) ∧ (decode cX12_body 303 = .ok (.invokevirtual 357, 3)) ∧ (decode cX12_body 306 = .ok (.istore 4, 2)) ∧ (decode cX12_body 308 = .ok (.iload 4, 2)) ∧ (decode cX12_body 310 = .ok (.aload_n 0, 1)) ∧ (decode cX12_body 311 = .ok (.iconst 1, 1)) := by decide +kernel
theorem gX12_body_13 : (decode cX12_body 312 = .ok (.iconst 1, 1)) ∧ (decode cX12_body 313 = .ok (.invokevirtual 372, 3)) ∧ (decode cX12_body 316 = .ok (.iadd, 1)) ∧ (decode cX12_body 317 = .ok (.ireturn, 1)) ∧ (decode cX12_body 318 = .ok (.aload_n 0, 1)) ∧ (decode cX12_body 319 = .ok (.bipush 60, 2)) ∧ (decode cX12_body 321 = .ok (.invokevirtual 366, 3)) ∧ (decode cX12_body 324 = .ok (.aload_n 0, 1)) ∧ (decode cX12_body 325 = .ok (.iconst 4, 1)) ∧ (decode cX12_body 326 = .ok (.iconst 2, 1)) := by decide +kernel
theorem gX12_body_4 : (decode cX12_body 166 = .ok (.getfield 375, 3)) ∧ (decode cX12_body 169 = .ok (.aload_n 0, 1)) ∧ (decode cX12_body 170 = .ok (.getfield 378, 3)) ∧ (decode cX12_body 173 = .ok (.if_icmp .ne 7, 3)) ∧ (decode cX12_body 176 = .ok (.iconst 1, 1)) ∧ (decode cX12_body 177 = .ok (.goto 4, 3)) ∧ (decode cX12_body 180 = .ok (.iconst 0, 1)) ∧ (decode cX12_body 181 = .ok (.putfield 380, 3)) ∧ (decode cX12_body 184 = .ok (.aload_n 0, 1)) ∧ (decode cX12_body 185 = .ok (.getfield 380, 3)) := by decide +kernel
theorem m_1070 : Cond.fieldLink RX12 380 "InquiryBenchModel" "isParted" "Z" ∈ BW := iB_BW56 _ (List.mem_of_getElem? (i := 19) rfl)
theorem pf_X12_380 (hC : CX p s m meth c y0 b0 mL0 rt0 args) (hy0 : y0.cls = RX12) (hK : KK G s) (hP : va_P G.1 vwCl ws H) (hD : va_D A ws) (hS : va_S A H0 H locs) (q0 : Nat) {fs : List Value} {v : Value} {ws' : va_W} (he : ws[q0]? = some (a, .inr (12, fs))) (hl : 40 < fs.length) (hws : ws.set q0 (a, .inr (12, fs.set 40 v)) = ws') (hn : narrow .boolean v = v) (hfit : fits .boolean v = true) (hdg : decode b0 pc = .ok (.putfield 380, 3)) (kk : ∀ (H1 : Heap) (locs1 : List Loc), va_P G.1 vwCl ws' H1 → va_D A ws' → va_S A H0 H1 locs1 → W p l e R s m args below meth c H1 locs1 cells slots Q (F0 m (pc + 3) ls rest)) : W p l e R s m args below meth c H locs cells slots Q (F0 m pc ls (v :: .ref a :: rest)) := by
  obtain ⟨hx, hb, hr, hml, hB, hown, hlocks, hnm⟩ := hC
  rw [hy0] at hown
  subst hws
  exact va_put (ci := 12) (ty := .boolean) (C := RX12) (T := TX12) (N := 41) hx hb hB in_X12 tyX12 tyX12_ok nmX12 hown hK.1 hP hD hS q0 he rfl 40 (by decide) (hB _ m_1070) (fun _ h => h) rfl (by decide +kernel) hn hfit hl hdg kk
theorem gf_X12_380 (hC : CX p s m meth c y0 b0 mL0 rt0 args) (hy0 : y0.cls = RX12) (hK : KK G s) (hP : va_P G.1 vwCl ws H) (q0 : Nat) {fs : List Value} {v : Value} (he : ws[q0]? = some (a, .inr (12, fs))) (hv : fs[40]? = some v) (hdg : decode b0 pc = .ok (.getfield 380, 3)) (kk : W p l e R s m args below meth c H locs cells slots Q (F0 m (pc + 3) ls (v :: rest))) : W p l e R s m args below meth c H locs cells slots Q (F0 m pc ls (.ref a :: rest)) := by
  obtain ⟨hx, hb, hr, hml, hB, hown, hlocks, hnm⟩ := hC
  rw [hy0] at hown
  exact va_get (ci := 12) (C := RX12) (T := TX12) (N := 41) hx hb hB in_X12 hown hK.1 hP q0 he rfl 40 (by decide) (hB _ m_1070) (fun _ h => h) hv hdg kk
theorem gX12_body_5 : (decode cX12_body 188 = .ok (.ifCond .eq 7, 3)) ∧ (decode cX12_body 191 = .ok (.iconst 0, 1)) ∧ (decode cX12_body 192 = .ok (.goto 14, 3)) ∧ (decode cX12_body 195 = .ok (.iload_n 3, 1)) ∧ (decode cX12_body 196 = .ok (.aload_n 0, 1)) ∧ (decode cX12_body 197 = .ok (.getfield 375, 3)) ∧ (decode cX12_body 200 = .ok (.aload_n 0, 1)) ∧ (decode cX12_body 201 = .ok (.getfield 378, 3)) ∧ (decode cX12_body 204 = .ok (.isub, 1)) ∧ (decode cX12_body 205 = .ok (.idiv, 1)) := by decide +kernel
theorem gX12_body_16 : (decode cX12_body 359 = .ok (.aload_n 0, 1)) ∧ (decode cX12_body 360 = .ok (.iconst 0, 1)) ∧ (decode cX12_body 361 = .ok (.iconst 3, 1)) ∧ (decode cX12_body 362 = .ok (.iload_n 3, 1)) ∧ (decode cX12_body 363 = .ok (.invokevirtual 357, 3)) ∧ (decode cX12_body 366 = .ok (.istore 5, 2)) ∧ (decode cX12_body 368 = .ok (.aload_n 0, 1)) ∧ (decode cX12_body 369 = .ok (.getfield 380, 3)) ∧ (decode cX12_body 372 = .ok (.ifCond .eq 7, 3)) ∧ (decode cX12_body 375 = .ok (.iconst 0, 1)) := by decide +kernel
theorem gX12_body_17 : (decode cX12_body 376 = .ok (.goto 15, 3)) ∧ (decode cX12_body 379 = .ok (.iload 5, 2)) ∧ (decode cX12_body 381 = .ok (.aload_n 0, 1)) ∧ (decode cX12_body 382 = .ok (.iconst 0, 1)) ∧ (decode cX12_body 383 = .ok (.aload_n 0, 1)) ∧ (decode cX12_body 384 = .ok (.getfield 378, 3)) ∧ (decode cX12_body 387 = .ok (.invokevirtual 372, 3)) ∧ (decode cX12_body 390 = .ok (.isub, 1)) ∧ (decode cX12_body 391 = .ok (.ireturn, 1)) := by decide +kernel
theorem gX12_deal_0 : (decode cX12_deal 0 = .ok (.aload_n 0, 1)) ∧ (decode cX12_deal 1 = .ok (.iconst 0, 1)) ∧ (decode cX12_deal 2 = .ok (.putfield 351, 3)) ∧ (decode cX12_deal 5 = .ok (.iload_n 1, 1)) ∧ (decode cX12_deal 6 = .ok (.invokestatic 336, 3)) ∧ (decode cX12_deal 9 = .ok (.ifCond .eq 10, 3)) ∧ (decode cX12_deal 12 = .ok (.iload_n 2, 1)) ∧ (decode cX12_deal 13 = .ok (.invokestatic 336, 3)) ∧ (decode cX12_deal 16 = .ok (.ifCond .ne 7, 3)) ∧ (decode cX12_deal 19 = .ok (.iconst (-1), 1)) := by decide +kernel
theorem gX12_deal_1 : (decode cX12_deal 20 = .ok (.goto 8, 3)) ∧ (decode cX12_deal 23 = .ok (.aload_n 0, 1)) ∧ (decode cX12_deal 24 = .ok (.iload_n 1, 1)) ∧ (decode cX12_deal 25 = .ok (.invokevirtual 345, 3)) ∧ (decode cX12_deal 28 = .ok (.istore 4, 2)) ∧ (decode cX12_deal 30 = .ok (.iload 4, 2)) ∧ (decode cX12_deal 32 = .ok (.ifCond .ge 5, 3)) ∧ (decode cX12_deal 35 = .ok (.iconst 0, 1)) ∧ (decode cX12_deal 36 = .ok (.ireturn, 1)) ∧ (decode cX12_deal 37 = .ok (.aload_n 0, 1)) := by decide +kernel
theorem gX12_deal_2 : (decode cX12_deal 38 = .ok (.iload 4, 2)) ∧ (decode cX12_deal 40 = .ok (.putfield 354, 3)) ∧ (decode cX12_deal 43 = .ok (.aload_n 0, 1)) ∧ (decode cX12_deal 44 = .ok (.aload_n 0, 1)) ∧ (decode cX12_deal 45 = .ok (.getfield 75, 3)) ∧ (decode cX12_deal 48 = .ok (.iload_n 1, 1)) ∧ (decode cX12_deal 49 = .ok (.iaload, 1)) ∧ (decode cX12_deal 50 = .ok (.putfield 378, 3)) ∧ (decode cX12_deal 53 = .ok (.aload_n 0, 1)) ∧ (decode cX12_deal 54 = .ok (.getfield 72, 3)) := by decide +kernel
theorem pf_X12_354 (hC : CX p s m meth c y0 b0 mL0 rt0 args) (hy0 : y0.cls = RX12) (hK : KK G s) (hP : va_P G.1 vwCl ws H) (hD : va_D A ws) (hS : va_S A H0 H locs) (q0 : Nat) {fs : List Value} {v : Value} {ws' : va_W} (he : ws[q0]? = some (a, .inr (12, fs))) (hl : 36 < fs.length) (hws : ws.set q0 (a, .inr (12, fs.set 36 v)) = ws') (hn : narrow .int v = v) (hfit : fits .int v = true) (hdg : decode b0 pc = .ok (.putfield 354, 3)) (kk : ∀ (H1 : Heap) (locs1 : List Loc), va_P G.1 vwCl ws' H1 → va_D A ws' → va_S A H0 H1 locs1 → W p l e R s m args below meth c H1 locs1 cells slots Q (F0 m (pc + 3) ls rest)) : W p l e R s m args below meth c H locs cells slots Q (F0 m pc ls (v :: .ref a :: rest)) := by
  obtain ⟨hx, hb, hr, hml, hB, hown, hlocks, hnm⟩ := hC
  rw [hy0] at hown
  subst hws
  exact va_put (ci := 12) (ty := .int) (C := RX12) (T := TX12) (N := 41) hx hb hB in_X12 tyX12 tyX12_ok nmX12 hown hK.1 hP hD hS q0 he rfl 36 (by decide) (hB _ m_1066) (fun _ h => h) rfl (by decide +kernel) hn hfit hl hdg kk
theorem pf_X12_378 (hC : CX p s m meth c y0 b0 mL0 rt0 args) (hy0 : y0.cls = RX12) (hK : KK G s) (hP : va_P G.1 vwCl ws H) (hD : va_D A ws) (hS : va_S A H0 H locs) (q0 : Nat) {fs : List Value} {v : Value} {ws' : va_W} (he : ws[q0]? = some (a, .inr (12, fs))) (hl : 37 < fs.length) (hws : ws.set q0 (a, .inr (12, fs.set 37 v)) = ws') (hn : narrow .int v = v) (hfit : fits .int v = true) (hdg : decode b0 pc = .ok (.putfield 378, 3)) (kk : ∀ (H1 : Heap) (locs1 : List Loc), va_P G.1 vwCl ws' H1 → va_D A ws' → va_S A H0 H1 locs1 → W p l e R s m args below meth c H1 locs1 cells slots Q (F0 m (pc + 3) ls rest)) : W p l e R s m args below meth c H locs cells slots Q (F0 m pc ls (v :: .ref a :: rest)) := by
  obtain ⟨hx, hb, hr, hml, hB, hown, hlocks, hnm⟩ := hC
  rw [hy0] at hown
  subst hws
  exact va_put (ci := 12) (ty := .int) (C := RX12) (T := TX12) (N := 41) hx hb hB in_X12 tyX12 tyX12_ok nmX12 hown hK.1 hP hD hS q0 he rfl 37 (by decide) (hB _ m_1067) (fun _ h => h) rfl (by decide +kernel) hn hfit hl hdg kk
theorem gX12_deal_3 : (decode cX12_deal 57 = .ok (.iload_n 1, 1)) ∧ (decode cX12_deal 58 = .ok (.iaload, 1)) ∧ (decode cX12_deal 59 = .ok (.iconst 1, 1)) ∧ (decode cX12_deal 60 = .ok (.if_icmp .ne 7, 3)) ∧ (decode cX12_deal 63 = .ok (.iconst 1, 1)) ∧ (decode cX12_deal 64 = .ok (.goto 4, 3)) ∧ (decode cX12_deal 67 = .ok (.iconst 0, 1)) ∧ (decode cX12_deal 68 = .ok (.istore 5, 2)) ∧ (decode cX12_deal 70 = .ok (.aload_n 0, 1)) ∧ (decode cX12_deal 71 = .ok (.getfield 72, 3)) := by decide +kernel
theorem gX12_deal_4 : (decode cX12_deal 74 = .ok (.iload_n 1, 1)) ∧ (decode cX12_deal 75 = .ok (.iaload, 1)) ∧ (decode cX12_deal 76 = .ok (.iconst 2, 1)) ∧ (decode cX12_deal 77 = .ok (.if_icmp .ne 7, 3)) ∧ (decode cX12_deal 80 = .ok (.iconst 1, 1)) ∧ (decode cX12_deal 81 = .ok (.goto 4, 3)) ∧ (decode cX12_deal 84 = .ok (.iconst 0, 1)) ∧ (decode cX12_deal 85 = .ok (.istore 6, 2)) ∧ (decode cX12_deal 87 = .ok (.aload_n 0, 1)) ∧ (decode cX12_deal 88 = .ok (.iload 5, 2)) := by decide +kernel
theorem gX12_deal_5 : (decode cX12_deal 90 = .ok (.ifCond .eq 15, 3)) ∧ (decode cX12_deal 93 = .ok (.aload_n 0, 1)) ∧ (decode cX12_deal 94 = .ok (.aload_n 0, 1)) ∧ (decode cX12_deal 95 = .ok (.getfield 378, 3)) ∧ (decode cX12_deal 98 = .ok (.iconst 0, 1)) ∧ (decode cX12_deal 99 = .ok (.invokevirtual 88, 3)) ∧ (decode cX12_deal 102 = .ok (.goto 37, 3)) ∧ (decode cX12_deal 105 = .ok (.iload 6, 2)) ∧ (decode cX12_deal 107 = .ok (.ifCond .eq 15, 3)) ∧ (decode cX12_deal 110 = .ok (.aload_n 0, 1)) := by decide +kernel
theorem gX12_deal_7 : (decode cX12_deal 131 = .ok (.getfield 378, 3)) ∧ (decode cX12_deal 134 = .ok (.imul, 1)) ∧ (decode cX12_deal 135 = .ok (.iadd, 1)) ∧ (decode cX12_deal 136 = .ok (.iconst 0, 1)) ∧ (decode cX12_deal 137 = .ok (.iadd, 1)) ∧ (decode cX12_deal 138 = .ok (.iaload, 1)) ∧ (decode cX12_deal 139 = .ok (.putfield 375, 3)) ∧ (decode cX12_deal 142 = .ok (.aload_n 0, 1)) ∧ (decode cX12_deal 143 = .ok (.iload 5, 2)) ∧ (decode cX12_deal 145 = .ok (.ifCond .eq 15, 3)) := by decide +kernel
theorem pf_X12_375 (hC : CX p s m meth c y0 b0 mL0 rt0 args) (hy0 : y0.cls = RX12) (hK : KK G s) (hP : va_P G.1 vwCl ws H) (hD : va_D A ws) (hS : va_S A H0 H locs) (q0 : Nat) {fs : List Value} {v : Value} {ws' : va_W} (he : ws[q0]? = some (a, .inr (12, fs))) (hl : 38 < fs.length) (hws : ws.set q0 (a, .inr (12, fs.set 38 v)) = ws') (hn : narrow .int v = v) (hfit : fits .int v = true) (hdg : decode b0 pc = .ok (.putfield 375, 3)) (kk : ∀ (H1 : Heap) (locs1 : List Loc), va_P G.1 vwCl ws' H1 → va_D A ws' → va_S A H0 H1 locs1 → W p l e R s m args below meth c H1 locs1 cells slots Q (F0 m (pc + 3) ls rest)) : W p l e R s m args below meth c H locs cells slots Q (F0 m pc ls (v :: .ref a :: rest)) := by
  obtain ⟨hx, hb, hr, hml, hB, hown, hlocks, hnm⟩ := hC
  rw [hy0] at hown
  subst hws
  exact va_put (ci := 12) (ty := .int) (C := RX12) (T := TX12) (N := 41) hx hb hB in_X12 tyX12 tyX12_ok nmX12 hown hK.1 hP hD hS q0 he rfl 38 (by decide) (hB _ m_1068) (fun _ h => h) rfl (by decide +kernel) hn hfit hl hdg kk
theorem gX12_deal_8 : (decode cX12_deal 148 = .ok (.aload_n 0, 1)) ∧ (decode cX12_deal 149 = .ok (.aload_n 0, 1)) ∧ (decode cX12_deal 150 = .ok (.getfield 378, 3)) ∧ (decode cX12_deal 153 = .ok (.iconst 2, 1)) ∧ (decode cX12_deal 154 = .ok (.invokevirtual 88, 3)) ∧ (decode cX12_deal 157 = .ok (.goto 37, 3)) ∧ (decode cX12_deal 160 = .ok (.iload 6, 2)) ∧ (decode cX12_deal 162 = .ok (.ifCond .eq 15, 3)) ∧ (decode cX12_deal 165 = .ok (.aload_n 0, 1)) ∧ (decode cX12_deal 166 = .ok (.aload_n 0, 1)) := by decide +kernel
theorem gX12_deal_10 : (decode cX12_deal 189 = .ok (.imul, 1)) ∧ (decode cX12_deal 190 = .ok (.iadd, 1)) ∧ (decode cX12_deal 191 = .ok (.iconst 2, 1)) ∧ (decode cX12_deal 192 = .ok (.iadd, 1)) ∧ (decode cX12_deal 193 = .ok (.iaload, 1)) ∧ (decode cX12_deal 194 = .ok (.putfield 369, 3)) ∧ (decode cX12_deal 197 = .ok (.aload_n 0, 1)) ∧ (decode cX12_deal 198 = .ok (.iconst 0, 1)) ∧ (decode cX12_deal 199 = .ok (.putfield 380, 3)) ∧ (decode cX12_deal 202 = .ok (.aload_n 0, 1)) := by decide +kernel
theorem pf_X12_369 (hC : CX p s m meth c y0 b0 mL0 rt0 args) (hy0 : y0.cls = RX12) (hK : KK G s) (hP : va_P G.1 vwCl ws H) (hD : va_D A ws) (hS : va_S A H0 H locs) (q0 : Nat) {fs : List Value} {v : Value} {ws' : va_W} (he : ws[q0]? = some (a, .inr (12, fs))) (hl : 39 < fs.length) (hws : ws.set q0 (a, .inr (12, fs.set 39 v)) = ws') (hn : narrow .int v = v) (hfit : fits .int v = true) (hdg : decode b0 pc = .ok (.putfield 369, 3)) (kk : ∀ (H1 : Heap) (locs1 : List Loc), va_P G.1 vwCl ws' H1 → va_D A ws' → va_S A H0 H1 locs1 → W p l e R s m args below meth c H1 locs1 cells slots Q (F0 m (pc + 3) ls rest)) : W p l e R s m args below meth c H locs cells slots Q (F0 m pc ls (v :: .ref a :: rest)) := by
  obtain ⟨hx, hb, hr, hml, hB, hown, hlocks, hnm⟩ := hC
  rw [hy0] at hown
  subst hws
  exact va_put (ci := 12) (ty := .int) (C := RX12) (T := TX12) (N := 41) hx hb hB in_X12 tyX12 tyX12_ok nmX12 hown hK.1 hP hD hS q0 he rfl 39 (by decide) (hB _ m_1069) (fun _ h => h) rfl (by decide +kernel) hn hfit hl hdg kk
theorem gX12_deal_11 : (decode cX12_deal 203 = .ok (.iload_n 2, 1)) ∧ (decode cX12_deal 204 = .ok (.iload_n 3, 1)) ∧ (decode cX12_deal 205 = .ok (.invokevirtual 372, 3)) ∧ (decode cX12_deal 208 = .ok (.istore 7, 2)) ∧ (decode cX12_deal 210 = .ok (.aload_n 0, 1)) ∧ (decode cX12_deal 211 = .ok (.getfield 380, 3)) ∧ (decode cX12_deal 214 = .ok (.ifCond .eq 8, 3)) ∧ (decode cX12_deal 217 = .ok (.bipush (-15), 2)) ∧ (decode cX12_deal 219 = .ok (.goto 5, 3)) ∧ (decode cX12_deal 222 = .ok (.iload 7, 2)) := by decide +kernel
theorem gX12_deal_12 : (decode cX12_deal 224 = .ok (.ireturn, 1)) := by decide +kernel
theorem gX12_deal_6 : (decode cX12_deal 111 = .ok (.aload_n 0, 1)) ∧ (decode cX12_deal 112 = .ok (.getfield 378, 3)) ∧ (decode cX12_deal 115 = .ok (.iconst 0, 1)) ∧ (decode cX12_deal 116 = .ok (.invokevirtual 114, 3)) ∧ (decode cX12_deal 119 = .ok (.goto 20, 3)) ∧ (decode cX12_deal 122 = .ok (.aload_n 0, 1)) ∧ (decode cX12_deal 123 = .ok (.getfield 9, 3)) ∧ (decode cX12_deal 126 = .ok (.sipush 1552, 3)) ∧ (decode cX12_deal 129 = .ok (.iconst 4, 1)) ∧ (decode cX12_deal 130 = .ok (.aload_n 0, 1)) := by decide +kernel
theorem gX12_deal_9 : (decode cX12_deal 167 = .ok (.getfield 378, 3)) ∧ (decode cX12_deal 170 = .ok (.iconst 4, 1)) ∧ (decode cX12_deal 171 = .ok (.invokevirtual 114, 3)) ∧ (decode cX12_deal 174 = .ok (.goto 20, 3)) ∧ (decode cX12_deal 177 = .ok (.aload_n 0, 1)) ∧ (decode cX12_deal 178 = .ok (.getfield 9, 3)) ∧ (decode cX12_deal 181 = .ok (.sipush 1552, 3)) ∧ (decode cX12_deal 184 = .ok (.iconst 4, 1)) ∧ (decode cX12_deal 185 = .ok (.aload_n 0, 1)) ∧ (decode cX12_deal 186 = .ok (.getfield 378, 3)) := by decide +kernel
theorem gX12_trace_0 : (decode cX12_trace 0 = .ok (.iload_n 1, 1)) ∧ (decode cX12_trace 1 = .ok (.iconst 0, 1)) ∧ (decode cX12_trace 2 = .ok (.aload_n 0, 1)) ∧ (decode cX12_trace 3 = .ok (.getfield 351, 3)) ∧ (decode cX12_trace 6 = .ok (.iconst 1, 1)) ∧ (decode cX12_trace 7 = .ok (.isub, 1)) ∧ (decode cX12_trace 8 = .ok (.invokestatic 84, 3)) ∧ (decode cX12_trace 11 = .ok (.ifCond .eq 12, 3)) ∧ (decode cX12_trace 14 = .ok (.aload_n 0, 1)) ∧ (decode cX12_trace 15 = .ok (.getfield 81, 3)) := by decide +kernel
theorem gX12_trace_1 : (decode cX12_trace 18 = .ok (.iload_n 1, 1)) ∧ (decode cX12_trace 19 = .ok (.iaload, 1)) ∧ (decode cX12_trace 20 = .ok (.goto 5, 3)) ∧ (decode cX12_trace 23 = .ok (.bipush (-3), 2)) ∧ (decode cX12_trace 25 = .ok (.ireturn, 1)) := by decide +kernel
theorem gX12_many_0 : (decode cX12_many 0 = .ok (.iload_n 1, 1)) ∧ (decode cX12_many 1 = .ok (.tableswitch 212 0 14 #[75, 82, 89, 96, 104, 112, 120, 128, 134, 142, 181, 189, 197, 202, 207], 75)) ∧ (decode cX12_many 76 = .ok (.aload_n 0, 1)) ∧ (decode cX12_many 77 = .ok (.getfield 9, 3)) ∧ (decode cX12_many 80 = .ok (.iconst 0, 1)) ∧ (decode cX12_many 81 = .ok (.iaload, 1)) ∧ (decode cX12_many 82 = .ok (.ireturn, 1)) ∧ (decode cX12_many 83 = .ok (.aload_n 0, 1)) ∧ (decode cX12_many 84 = .ok (.getfield 9, 3)) ∧ (decode cX12_many 87 = .ok (.iconst 4, 1)) := by decide +kernel
theorem gX12_many_1 : (decode cX12_many 88 = .ok (.iaload, 1)) ∧ (decode cX12_many 89 = .ok (.ireturn, 1)) ∧ (decode cX12_many 90 = .ok (.aload_n 0, 1)) ∧ (decode cX12_many 91 = .ok (.getfield 9, 3)) ∧ (decode cX12_many 94 = .ok (.iconst 5, 1)) ∧ (decode cX12_many 95 = .ok (.iaload, 1)) ∧ (decode cX12_many 96 = .ok (.ireturn, 1)) ∧ (decode cX12_many 97 = .ok (.aload_n 0, 1)) ∧ (decode cX12_many 98 = .ok (.invokevirtual 107, 3)) ∧ (decode cX12_many 101 = .ok (.invokestatic 110, 3)) := by decide +kernel
theorem gX12_many_2 : (decode cX12_many 104 = .ok (.ireturn, 1)) ∧ (decode cX12_many 105 = .ok (.aload_n 0, 1)) ∧ (decode cX12_many 106 = .ok (.getfield 9, 3)) ∧ (decode cX12_many 109 = .ok (.bipush 6, 2)) ∧ (decode cX12_many 111 = .ok (.iaload, 1)) ∧ (decode cX12_many 112 = .ok (.ireturn, 1)) ∧ (decode cX12_many 113 = .ok (.aload_n 0, 1)) ∧ (decode cX12_many 114 = .ok (.getfield 9, 3)) ∧ (decode cX12_many 117 = .ok (.bipush 7, 2)) ∧ (decode cX12_many 119 = .ok (.iaload, 1)) := by decide +kernel
theorem gX12_many_3 : (decode cX12_many 120 = .ok (.ireturn, 1)) ∧ (decode cX12_many 121 = .ok (.aload_n 0, 1)) ∧ (decode cX12_many 122 = .ok (.getfield 9, 3)) ∧ (decode cX12_many 125 = .ok (.bipush 8, 2)) ∧ (decode cX12_many 127 = .ok (.iaload, 1)) ∧ (decode cX12_many 128 = .ok (.ireturn, 1)) ∧ (decode cX12_many 129 = .ok (.aload_n 0, 1)) ∧ (decode cX12_many 130 = .ok (.iconst (-1), 1)) ∧ (decode cX12_many 131 = .ok (.invokevirtual 127, 3)) ∧ (decode cX12_many 134 = .ok (.ireturn, 1)) := by decide +kernel
theorem gX12_many_4 : (decode cX12_many 135 = .ok (.aload_n 0, 1)) ∧ (decode cX12_many 136 = .ok (.getfield 9, 3)) ∧ (decode cX12_many 139 = .ok (.bipush 9, 2)) ∧ (decode cX12_many 141 = .ok (.iaload, 1)) ∧ (decode cX12_many 142 = .ok (.ireturn, 1)) ∧ (decode cX12_many 143 = .ok (.iconst 0, 1)) ∧ (decode cX12_many 144 = .ok (.istore_n 2, 1)) ∧ (decode cX12_many 145 = .ok (.iconst 0, 1)) ∧ (decode cX12_many 146 = .ok (.istore_n 3, 1)) ∧ (decode cX12_many 147 = .ok (.iload_n 3, 1)) := by decide +kernel
theorem gX12_many_5 : (decode cX12_many 148 = .ok (.aload_n 0, 1)) ∧ (decode cX12_many 149 = .ok (.getfield 9, 3)) ∧ (decode cX12_many 152 = .ok (.bipush 9, 2)) ∧ (decode cX12_many 154 = .ok (.iaload, 1)) ∧ (decode cX12_many 155 = .ok (.if_icmp .ge 25, 3)) ∧ (decode cX12_many 158 = .ok (.iload_n 2, 1)) ∧ (decode cX12_many 159 = .ok (.aload_n 0, 1)) ∧ (decode cX12_many 160 = .ok (.iload_n 3, 1)) ∧ (decode cX12_many 161 = .ok (.invokevirtual 305, 3)) ∧ (decode cX12_many 164 = .ok (.ifCond .eq 7, 3)) := by decide +kernel
theorem gX12_many_6 : (decode cX12_many 167 = .ok (.iconst 1, 1)) ∧ (decode cX12_many 168 = .ok (.goto 4, 3)) ∧ (decode cX12_many 171 = .ok (.iconst 0, 1)) ∧ (decode cX12_many 172 = .ok (.iadd, 1)) ∧ (decode cX12_many 173 = .ok (.istore_n 2, 1)) ∧ (decode cX12_many 174 = .ok (.iinc 3 1, 3)) ∧ (decode cX12_many 177 = .ok (.goto (-30), 3)) ∧ (decode cX12_many 180 = .ok (.iload_n 2, 1)) ∧ (decode cX12_many 181 = .ok (.ireturn, 1)) ∧ (decode cX12_many 182 = .ok (.aload_n 0, 1)) := by decide +kernel
theorem gX12_many_7 : (decode cX12_many 183 = .ok (.getfield 9, 3)) ∧ (decode cX12_many 186 = .ok (.bipush 10, 2)) ∧ (decode cX12_many 188 = .ok (.iaload, 1)) ∧ (decode cX12_many 189 = .ok (.ireturn, 1)) ∧ (decode cX12_many 190 = .ok (.aload_n 0, 1)) ∧ (decode cX12_many 191 = .ok (.getfield 9, 3)) ∧ (decode cX12_many 194 = .ok (.bipush 11, 2)) ∧ (decode cX12_many 196 = .ok (.iaload, 1)) ∧ (decode cX12_many 197 = .ok (.ireturn, 1)) ∧ (decode cX12_many 198 = .ok (.aload_n 0, 1)) := by decide +kernel
theorem gX12_many_8 : (decode cX12_many 199 = .ok (.getfield 327, 3)) ∧ (decode cX12_many 202 = .ok (.ireturn, 1)) ∧ (decode cX12_many 203 = .ok (.aload_n 0, 1)) ∧ (decode cX12_many 204 = .ok (.getfield 206, 3)) ∧ (decode cX12_many 207 = .ok (.ireturn, 1)) ∧ (decode cX12_many 208 = .ok (.aload_n 0, 1)) ∧ (decode cX12_many 209 = .ok (.getfield 351, 3)) ∧ (decode cX12_many 212 = .ok (.ireturn, 1)) ∧ (decode cX12_many 213 = .ok (.iconst (-1), 1)) ∧ (decode cX12_many 214 = .ok (.ireturn, 1)) := by decide +kernel
theorem m_1034 : Cond.fieldLink RX12 206 "InquiryBenchModel" "taped" "I" ∈ BW := iB_BW55 _ (List.mem_of_getElem? (i := 3) rfl)
theorem gf_X12_206 (hC : CX p s m meth c y0 b0 mL0 rt0 args) (hy0 : y0.cls = RX12) (hK : KK G s) (hP : va_P G.1 vwCl ws H) (q0 : Nat) {fs : List Value} {v : Value} (he : ws[q0]? = some (a, .inr (12, fs))) (hv : fs[4]? = some v) (hdg : decode b0 pc = .ok (.getfield 206, 3)) (kk : W p l e R s m args below meth c H locs cells slots Q (F0 m (pc + 3) ls (v :: rest))) : W p l e R s m args below meth c H locs cells slots Q (F0 m pc ls (.ref a :: rest)) := by
  obtain ⟨hx, hb, hr, hml, hB, hown, hlocks, hnm⟩ := hC
  rw [hy0] at hown
  exact va_get (ci := 12) (C := RX12) (T := TX12) (N := 41) hx hb hB in_X12 hown hK.1 hP q0 he rfl 4 (by decide) (hB _ m_1034) (fun _ h => h) hv hdg kk
theorem gX12_keep_0 : (decode cX12_keep 0 = .ok (.iconst 0, 1)) ∧ (decode cX12_keep 1 = .ok (.istore_n 1, 1)) ∧ (decode cX12_keep 2 = .ok (.iload_n 1, 1)) ∧ (decode cX12_keep 3 = .ok (.sipush 1662, 3)) ∧ (decode cX12_keep 6 = .ok (.if_icmp .ge 21, 3)) ∧ (decode cX12_keep 9 = .ok (.aload_n 0, 1)) ∧ (decode cX12_keep 10 = .ok (.getfield 13, 3)) ∧ (decode cX12_keep 13 = .ok (.iload_n 1, 1)) ∧ (decode cX12_keep 14 = .ok (.aload_n 0, 1)) ∧ (decode cX12_keep 15 = .ok (.getfield 9, 3)) := by decide +kernel
theorem gX12_keep_1 : (decode cX12_keep 18 = .ok (.iload_n 1, 1)) ∧ (decode cX12_keep 19 = .ok (.iaload, 1)) ∧ (decode cX12_keep 20 = .ok (.iastore, 1)) ∧ (decode cX12_keep 21 = .ok (.iinc 1 1, 3)) ∧ (decode cX12_keep 24 = .ok (.goto (-22), 3)) ∧ (decode cX12_keep 27 = .ok (.aload_n 0, 1)) ∧ (decode cX12_keep 28 = .ok (.iconst 1, 1)) ∧ (decode cX12_keep 29 = .ok (.putfield 383, 3)) ∧ (decode cX12_keep 32 = .ok (.iconst 1, 1)) ∧ (decode cX12_keep 33 = .ok (.ireturn, 1)) := by decide +kernel
theorem m_1032 : Cond.fieldLink RX12 383 "InquiryBenchModel" "hasKept" "Z" ∈ BW := iB_BW55 _ (List.mem_of_getElem? (i := 1) rfl)
theorem pf_X12_383 (hC : CX p s m meth c y0 b0 mL0 rt0 args) (hy0 : y0.cls = RX12) (hK : KK G s) (hP : va_P G.1 vwCl ws H) (hD : va_D A ws) (hS : va_S A H0 H locs) (q0 : Nat) {fs : List Value} {v : Value} {ws' : va_W} (he : ws[q0]? = some (a, .inr (12, fs))) (hl : 2 < fs.length) (hws : ws.set q0 (a, .inr (12, fs.set 2 v)) = ws') (hn : narrow .boolean v = v) (hfit : fits .boolean v = true) (hdg : decode b0 pc = .ok (.putfield 383, 3)) (kk : ∀ (H1 : Heap) (locs1 : List Loc), va_P G.1 vwCl ws' H1 → va_D A ws' → va_S A H0 H1 locs1 → W p l e R s m args below meth c H1 locs1 cells slots Q (F0 m (pc + 3) ls rest)) : W p l e R s m args below meth c H locs cells slots Q (F0 m pc ls (v :: .ref a :: rest)) := by
  obtain ⟨hx, hb, hr, hml, hB, hown, hlocks, hnm⟩ := hC
  rw [hy0] at hown
  subst hws
  exact va_put (ci := 12) (ty := .boolean) (C := RX12) (T := TX12) (N := 41) hx hb hB in_X12 tyX12 tyX12_ok nmX12 hown hK.1 hP hD hS q0 he rfl 2 (by decide) (hB _ m_1032) (fun _ h => h) rfl (by decide +kernel) hn hfit hl hdg kk
theorem m_1031 : Cond.fieldLink RX12 13 "InquiryBenchModel" "kept" "[I" ∈ BW := iB_BW55 _ (List.mem_of_getElem? (i := 0) rfl)
theorem gf_X12_13 (hC : CX p s m meth c y0 b0 mL0 rt0 args) (hy0 : y0.cls = RX12) (hK : KK G s) (hP : va_P G.1 vwCl ws H) (q0 : Nat) {fs : List Value} {v : Value} (he : ws[q0]? = some (a, .inr (12, fs))) (hv : fs[1]? = some v) (hdg : decode b0 pc = .ok (.getfield 13, 3)) (kk : W p l e R s m args below meth c H locs cells slots Q (F0 m (pc + 3) ls (v :: rest))) : W p l e R s m args below meth c H locs cells slots Q (F0 m pc ls (.ref a :: rest)) := by
  obtain ⟨hx, hb, hr, hml, hB, hown, hlocks, hnm⟩ := hC
  rw [hy0] at hown
  exact va_get (ci := 12) (C := RX12) (T := TX12) (N := 41) hx hb hB in_X12 hown hK.1 hP q0 he rfl 1 (by decide) (hB _ m_1031) (fun _ h => h) hv hdg kk
theorem gX12_again_0 : (decode cX12_again 0 = .ok (.aload_n 0, 1)) ∧ (decode cX12_again 1 = .ok (.getfield 383, 3)) ∧ (decode cX12_again 4 = .ok (.ifCond .ne 6, 3)) ∧ (decode cX12_again 7 = .ok (.bipush (-3), 2)) ∧ (decode cX12_again 9 = .ok (.ireturn, 1)) ∧ (decode cX12_again 10 = .ok (.iconst 0, 1)) ∧ (decode cX12_again 11 = .ok (.istore_n 1, 1)) ∧ (decode cX12_again 12 = .ok (.iload_n 1, 1)) ∧ (decode cX12_again 13 = .ok (.sipush 1662, 3)) ∧ (decode cX12_again 16 = .ok (.if_icmp .ge 21, 3)) := by decide +kernel
theorem gf_X12_383 (hC : CX p s m meth c y0 b0 mL0 rt0 args) (hy0 : y0.cls = RX12) (hK : KK G s) (hP : va_P G.1 vwCl ws H) (q0 : Nat) {fs : List Value} {v : Value} (he : ws[q0]? = some (a, .inr (12, fs))) (hv : fs[2]? = some v) (hdg : decode b0 pc = .ok (.getfield 383, 3)) (kk : W p l e R s m args below meth c H locs cells slots Q (F0 m (pc + 3) ls (v :: rest))) : W p l e R s m args below meth c H locs cells slots Q (F0 m pc ls (.ref a :: rest)) := by
  obtain ⟨hx, hb, hr, hml, hB, hown, hlocks, hnm⟩ := hC
  rw [hy0] at hown
  exact va_get (ci := 12) (C := RX12) (T := TX12) (N := 41) hx hb hB in_X12 hown hK.1 hP q0 he rfl 2 (by decide) (hB _ m_1032) (fun _ h => h) hv hdg kk
theorem gX12_again_2 : (decode cX12_again 37 = .ok (.iconst 1, 1)) ∧ (decode cX12_again 38 = .ok (.ireturn, 1)) := by decide +kernel
theorem gX12_again_1 : (decode cX12_again 19 = .ok (.aload_n 0, 1)) ∧ (decode cX12_again 20 = .ok (.getfield 9, 3)) ∧ (decode cX12_again 23 = .ok (.iload_n 1, 1)) ∧ (decode cX12_again 24 = .ok (.aload_n 0, 1)) ∧ (decode cX12_again 25 = .ok (.getfield 13, 3)) ∧ (decode cX12_again 28 = .ok (.iload_n 1, 1)) ∧ (decode cX12_again 29 = .ok (.iaload, 1)) ∧ (decode cX12_again 30 = .ok (.iastore, 1)) ∧ (decode cX12_again 31 = .ok (.iinc 1 1, 3)) ∧ (decode cX12_again 34 = .ok (.goto (-22), 3)) := by decide +kernel
end WR
theorem rm_12_1_2 {mc ms : Nat} : 1 + 1 ≤ (RM 12 mc ms).frames ∧ 8 + (2 + 11) + 40 * 1 ≤ (RM 12 mc ms).locals := ⟨by show 1 + 1 ≤ 12; decide, by show 8 + (2 + 11) + 40 * 1 ≤ 40 * 12; decide⟩
theorem rm_12_1_1 {mc ms : Nat} : 1 + 1 ≤ (RM 12 mc ms).frames ∧ 8 + (1 + 11) + 40 * 1 ≤ (RM 12 mc ms).locals := ⟨by show 1 + 1 ≤ 12; decide, by show 8 + (1 + 11) + 40 * 1 ≤ 40 * 12; decide⟩
theorem rm_12_3_6 {mc ms : Nat} : 3 + 1 ≤ (RM 12 mc ms).frames ∧ 8 + (6 + 11) + 40 * 3 ≤ (RM 12 mc ms).locals := ⟨by show 3 + 1 ≤ 12; decide, by show 8 + (6 + 11) + 40 * 3 ≤ 40 * 12; decide⟩
theorem rm_14_4_5 {mc ms : Nat} : 4 + 1 ≤ (RM 14 mc ms).frames ∧ 8 + (5 + 11) + 40 * 4 ≤ (RM 14 mc ms).locals := ⟨by show 4 + 1 ≤ 14; decide, by show 8 + (5 + 11) + 40 * 4 ≤ 40 * 14; decide⟩
theorem rm_14_12_5 {mc ms : Nat} : 12 + 1 ≤ (RM 14 mc ms).frames ∧ 8 + (5 + 11) + 40 * 12 ≤ (RM 14 mc ms).locals := ⟨by show 12 + 1 ≤ 14; decide, by show 8 + (5 + 11) + 40 * 12 ≤ 40 * 14; decide⟩
theorem rm_14_6_5 {mc ms : Nat} : 6 + 1 ≤ (RM 14 mc ms).frames ∧ 8 + (5 + 11) + 40 * 6 ≤ (RM 14 mc ms).locals := ⟨by show 6 + 1 ≤ 14; decide, by show 8 + (5 + 11) + 40 * 6 ≤ 40 * 14; decide⟩
theorem rm_14_8_5 {mc ms : Nat} : 8 + 1 ≤ (RM 14 mc ms).frames ∧ 8 + (5 + 11) + 40 * 8 ≤ (RM 14 mc ms).locals := ⟨by show 8 + 1 ≤ 14; decide, by show 8 + (5 + 11) + 40 * 8 ≤ 40 * 14; decide⟩
theorem rm_15_1_2 {mc ms : Nat} : 1 + 1 ≤ (RM 15 mc ms).frames ∧ 8 + (2 + 11) + 40 * 1 ≤ (RM 15 mc ms).locals := ⟨by show 1 + 1 ≤ 15; decide, by show 8 + (2 + 11) + 40 * 1 ≤ 40 * 15; decide⟩
theorem rm_16_1_2 {mc ms : Nat} : 1 + 1 ≤ (RM 16 mc ms).frames ∧ 8 + (2 + 11) + 40 * 1 ≤ (RM 16 mc ms).locals := ⟨by show 1 + 1 ≤ 16; decide, by show 8 + (2 + 11) + 40 * 1 ≤ 40 * 16; decide⟩
theorem rm_16_15_6 {mc ms : Nat} : 15 + 1 ≤ (RM 16 mc ms).frames ∧ 8 + (6 + 11) + 40 * 15 ≤ (RM 16 mc ms).locals := ⟨by show 15 + 1 ≤ 16; decide, by show 8 + (6 + 11) + 40 * 15 ≤ 40 * 16; decide⟩
theorem rm_17_1_2 {mc ms : Nat} : 1 + 1 ≤ (RM 17 mc ms).frames ∧ 8 + (2 + 11) + 40 * 1 ≤ (RM 17 mc ms).locals := ⟨by show 1 + 1 ≤ 17; decide, by show 8 + (2 + 11) + 40 * 1 ≤ 40 * 17; decide⟩
theorem rm_17_16_5 {mc ms : Nat} : 16 + 1 ≤ (RM 17 mc ms).frames ∧ 8 + (5 + 11) + 40 * 16 ≤ (RM 17 mc ms).locals := ⟨by show 16 + 1 ≤ 17; decide, by show 8 + (5 + 11) + 40 * 16 ≤ 40 * 17; decide⟩
theorem rm_18_1_2 {mc ms : Nat} : 1 + 1 ≤ (RM 18 mc ms).frames ∧ 8 + (2 + 11) + 40 * 1 ≤ (RM 18 mc ms).locals := ⟨by show 1 + 1 ≤ 18; decide, by show 8 + (2 + 11) + 40 * 1 ≤ 40 * 18; decide⟩
theorem rm_18_17_6 {mc ms : Nat} : 17 + 1 ≤ (RM 18 mc ms).frames ∧ 8 + (6 + 11) + 40 * 17 ≤ (RM 18 mc ms).locals := ⟨by show 17 + 1 ≤ 18; decide, by show 8 + (6 + 11) + 40 * 17 ≤ 40 * 18; decide⟩
theorem rm_19_1_2 {mc ms : Nat} : 1 + 1 ≤ (RM 19 mc ms).frames ∧ 8 + (2 + 11) + 40 * 1 ≤ (RM 19 mc ms).locals := ⟨by show 1 + 1 ≤ 19; decide, by show 8 + (2 + 11) + 40 * 1 ≤ 40 * 19; decide⟩
theorem rm_19_18_5 {mc ms : Nat} : 18 + 1 ≤ (RM 19 mc ms).frames ∧ 8 + (5 + 11) + 40 * 18 ≤ (RM 19 mc ms).locals := ⟨by show 18 + 1 ≤ 19; decide, by show 8 + (5 + 11) + 40 * 18 ≤ 40 * 19; decide⟩
theorem rm_20_1_2 {mc ms : Nat} : 1 + 1 ≤ (RM 20 mc ms).frames ∧ 8 + (2 + 11) + 40 * 1 ≤ (RM 20 mc ms).locals := ⟨by show 1 + 1 ≤ 20; decide, by show 8 + (2 + 11) + 40 * 1 ≤ 40 * 20; decide⟩
theorem rm_20_19_6 {mc ms : Nat} : 19 + 1 ≤ (RM 20 mc ms).frames ∧ 8 + (6 + 11) + 40 * 19 ≤ (RM 20 mc ms).locals := ⟨by show 19 + 1 ≤ 20; decide, by show 8 + (6 + 11) + 40 * 19 ≤ 40 * 20; decide⟩
theorem rm_24_1_2 {mc ms : Nat} : 1 + 1 ≤ (RM 24 mc ms).frames ∧ 8 + (2 + 11) + 40 * 1 ≤ (RM 24 mc ms).locals := ⟨by show 1 + 1 ≤ 24; decide, by show 8 + (2 + 11) + 40 * 1 ≤ 40 * 24; decide⟩
theorem rm_24_1_1 {mc ms : Nat} : 1 + 1 ≤ (RM 24 mc ms).frames ∧ 8 + (1 + 11) + 40 * 1 ≤ (RM 24 mc ms).locals := ⟨by show 1 + 1 ≤ 24; decide, by show 8 + (1 + 11) + 40 * 1 ≤ 40 * 24; decide⟩
theorem rm_24_15_6 {mc ms : Nat} : 15 + 1 ≤ (RM 24 mc ms).frames ∧ 8 + (6 + 11) + 40 * 15 ≤ (RM 24 mc ms).locals := ⟨by show 15 + 1 ≤ 24; decide, by show 8 + (6 + 11) + 40 * 15 ≤ 40 * 24; decide⟩
theorem rm_26_16_5 {mc ms : Nat} : 16 + 1 ≤ (RM 26 mc ms).frames ∧ 8 + (5 + 11) + 40 * 16 ≤ (RM 26 mc ms).locals := ⟨by show 16 + 1 ≤ 26; decide, by show 8 + (5 + 11) + 40 * 16 ≤ 40 * 26; decide⟩
theorem rm_26_18_5 {mc ms : Nat} : 18 + 1 ≤ (RM 26 mc ms).frames ∧ 8 + (5 + 11) + 40 * 18 ≤ (RM 26 mc ms).locals := ⟨by show 18 + 1 ≤ 26; decide, by show 8 + (5 + 11) + 40 * 18 ≤ 40 * 26; decide⟩
theorem rm_26_24_5 {mc ms : Nat} : 24 + 1 ≤ (RM 26 mc ms).frames ∧ 8 + (5 + 11) + 40 * 24 ≤ (RM 26 mc ms).locals := ⟨by show 24 + 1 ≤ 26; decide, by show 8 + (5 + 11) + 40 * 24 ≤ 40 * 26; decide⟩
theorem rm_26_20_5 {mc ms : Nat} : 20 + 1 ≤ (RM 26 mc ms).frames ∧ 8 + (5 + 11) + 40 * 20 ≤ (RM 26 mc ms).locals := ⟨by show 20 + 1 ≤ 26; decide, by show 8 + (5 + 11) + 40 * 20 ≤ 40 * 26; decide⟩
theorem rm_27_1_2 {mc ms : Nat} : 1 + 1 ≤ (RM 27 mc ms).frames ∧ 8 + (2 + 11) + 40 * 1 ≤ (RM 27 mc ms).locals := ⟨by show 1 + 1 ≤ 27; decide, by show 8 + (2 + 11) + 40 * 1 ≤ 40 * 27; decide⟩
theorem rm_28_1_2 {mc ms : Nat} : 1 + 1 ≤ (RM 28 mc ms).frames ∧ 8 + (2 + 11) + 40 * 1 ≤ (RM 28 mc ms).locals := ⟨by show 1 + 1 ≤ 28; decide, by show 8 + (2 + 11) + 40 * 1 ≤ 40 * 28; decide⟩
theorem rm_28_27_6 {mc ms : Nat} : 27 + 1 ≤ (RM 28 mc ms).frames ∧ 8 + (6 + 11) + 40 * 27 ≤ (RM 28 mc ms).locals := ⟨by show 27 + 1 ≤ 28; decide, by show 8 + (6 + 11) + 40 * 27 ≤ 40 * 28; decide⟩
theorem rm_29_1_2 {mc ms : Nat} : 1 + 1 ≤ (RM 29 mc ms).frames ∧ 8 + (2 + 11) + 40 * 1 ≤ (RM 29 mc ms).locals := ⟨by show 1 + 1 ≤ 29; decide, by show 8 + (2 + 11) + 40 * 1 ≤ 40 * 29; decide⟩
theorem rm_29_28_5 {mc ms : Nat} : 28 + 1 ≤ (RM 29 mc ms).frames ∧ 8 + (5 + 11) + 40 * 28 ≤ (RM 29 mc ms).locals := ⟨by show 28 + 1 ≤ 29; decide, by show 8 + (5 + 11) + 40 * 28 ≤ 40 * 29; decide⟩
theorem rm_30_1_2 {mc ms : Nat} : 1 + 1 ≤ (RM 30 mc ms).frames ∧ 8 + (2 + 11) + 40 * 1 ≤ (RM 30 mc ms).locals := ⟨by show 1 + 1 ≤ 30; decide, by show 8 + (2 + 11) + 40 * 1 ≤ 40 * 30; decide⟩
theorem rm_30_29_6 {mc ms : Nat} : 29 + 1 ≤ (RM 30 mc ms).frames ∧ 8 + (6 + 11) + 40 * 29 ≤ (RM 30 mc ms).locals := ⟨by show 29 + 1 ≤ 30; decide, by show 8 + (6 + 11) + 40 * 29 ≤ 40 * 30; decide⟩
theorem rm_31_28_5 {mc ms : Nat} : 28 + 1 ≤ (RM 31 mc ms).frames ∧ 8 + (5 + 11) + 40 * 28 ≤ (RM 31 mc ms).locals := ⟨by show 28 + 1 ≤ 31; decide, by show 8 + (5 + 11) + 40 * 28 ≤ 40 * 31; decide⟩
theorem rm_31_26_3 {mc ms : Nat} : 26 + 1 ≤ (RM 31 mc ms).frames ∧ 8 + (3 + 11) + 40 * 26 ≤ (RM 31 mc ms).locals := ⟨by show 26 + 1 ≤ 31; decide, by show 8 + (3 + 11) + 40 * 26 ≤ 40 * 31; decide⟩
theorem rm_32_1_2 {mc ms : Nat} : 1 + 1 ≤ (RM 32 mc ms).frames ∧ 8 + (2 + 11) + 40 * 1 ≤ (RM 32 mc ms).locals := ⟨by show 1 + 1 ≤ 32; decide, by show 8 + (2 + 11) + 40 * 1 ≤ 40 * 32; decide⟩
theorem rm_32_31_6 {mc ms : Nat} : 31 + 1 ≤ (RM 32 mc ms).frames ∧ 8 + (6 + 11) + 40 * 31 ≤ (RM 32 mc ms).locals := ⟨by show 31 + 1 ≤ 32; decide, by show 8 + (6 + 11) + 40 * 31 ≤ 40 * 32; decide⟩
theorem rm_33_1_2 {mc ms : Nat} : 1 + 1 ≤ (RM 33 mc ms).frames ∧ 8 + (2 + 11) + 40 * 1 ≤ (RM 33 mc ms).locals := ⟨by show 1 + 1 ≤ 33; decide, by show 8 + (2 + 11) + 40 * 1 ≤ 40 * 33; decide⟩
theorem rm_33_32_5 {mc ms : Nat} : 32 + 1 ≤ (RM 33 mc ms).frames ∧ 8 + (5 + 11) + 40 * 32 ≤ (RM 33 mc ms).locals := ⟨by show 32 + 1 ≤ 33; decide, by show 8 + (5 + 11) + 40 * 32 ≤ 40 * 33; decide⟩
theorem rm_34_1_2 {mc ms : Nat} : 1 + 1 ≤ (RM 34 mc ms).frames ∧ 8 + (2 + 11) + 40 * 1 ≤ (RM 34 mc ms).locals := ⟨by show 1 + 1 ≤ 34; decide, by show 8 + (2 + 11) + 40 * 1 ≤ 40 * 34; decide⟩
theorem rm_34_33_6 {mc ms : Nat} : 33 + 1 ≤ (RM 34 mc ms).frames ∧ 8 + (6 + 11) + 40 * 33 ≤ (RM 34 mc ms).locals := ⟨by show 33 + 1 ≤ 34; decide, by show 8 + (6 + 11) + 40 * 33 ≤ 40 * 34; decide⟩
theorem rm_36_1_2 {mc ms : Nat} : 1 + 1 ≤ (RM 36 mc ms).frames ∧ 8 + (2 + 11) + 40 * 1 ≤ (RM 36 mc ms).locals := ⟨by show 1 + 1 ≤ 36; decide, by show 8 + (2 + 11) + 40 * 1 ≤ 40 * 36; decide⟩
theorem rm_36_1_1 {mc ms : Nat} : 1 + 1 ≤ (RM 36 mc ms).frames ∧ 8 + (1 + 11) + 40 * 1 ≤ (RM 36 mc ms).locals := ⟨by show 1 + 1 ≤ 36; decide, by show 8 + (1 + 11) + 40 * 1 ≤ 40 * 36; decide⟩
theorem rm_36_27_6 {mc ms : Nat} : 27 + 1 ≤ (RM 36 mc ms).frames ∧ 8 + (6 + 11) + 40 * 27 ≤ (RM 36 mc ms).locals := ⟨by show 27 + 1 ≤ 36; decide, by show 8 + (6 + 11) + 40 * 27 ≤ 40 * 36; decide⟩
theorem rm_38_28_5 {mc ms : Nat} : 28 + 1 ≤ (RM 38 mc ms).frames ∧ 8 + (5 + 11) + 40 * 28 ≤ (RM 38 mc ms).locals := ⟨by show 28 + 1 ≤ 38; decide, by show 8 + (5 + 11) + 40 * 28 ≤ 40 * 38; decide⟩
theorem rm_38_36_5 {mc ms : Nat} : 36 + 1 ≤ (RM 38 mc ms).frames ∧ 8 + (5 + 11) + 40 * 36 ≤ (RM 38 mc ms).locals := ⟨by show 36 + 1 ≤ 38; decide, by show 8 + (5 + 11) + 40 * 36 ≤ 40 * 38; decide⟩
theorem rm_38_30_5 {mc ms : Nat} : 30 + 1 ≤ (RM 38 mc ms).frames ∧ 8 + (5 + 11) + 40 * 30 ≤ (RM 38 mc ms).locals := ⟨by show 30 + 1 ≤ 38; decide, by show 8 + (5 + 11) + 40 * 30 ≤ 40 * 38; decide⟩
theorem rm_38_32_5 {mc ms : Nat} : 32 + 1 ≤ (RM 38 mc ms).frames ∧ 8 + (5 + 11) + 40 * 32 ≤ (RM 38 mc ms).locals := ⟨by show 32 + 1 ≤ 38; decide, by show 8 + (5 + 11) + 40 * 32 ≤ 40 * 38; decide⟩
theorem rm_38_34_5 {mc ms : Nat} : 34 + 1 ≤ (RM 38 mc ms).frames ∧ 8 + (5 + 11) + 40 * 34 ≤ (RM 38 mc ms).locals := ⟨by show 34 + 1 ≤ 38; decide, by show 8 + (5 + 11) + 40 * 34 ≤ 40 * 38; decide⟩
theorem rm_39_1_2 {mc ms : Nat} : 1 + 1 ≤ (RM 39 mc ms).frames ∧ 8 + (2 + 11) + 40 * 1 ≤ (RM 39 mc ms).locals := ⟨by show 1 + 1 ≤ 39; decide, by show 8 + (2 + 11) + 40 * 1 ≤ 40 * 39; decide⟩
theorem rm_40_39_6 {mc ms : Nat} : 39 + 1 ≤ (RM 40 mc ms).frames ∧ 8 + (6 + 11) + 40 * 39 ≤ (RM 40 mc ms).locals := ⟨by show 39 + 1 ≤ 40; decide, by show 8 + (6 + 11) + 40 * 39 ≤ 40 * 40; decide⟩
theorem rm_42_1_2 {mc ms : Nat} : 1 + 1 ≤ (RM 42 mc ms).frames ∧ 8 + (2 + 11) + 40 * 1 ≤ (RM 42 mc ms).locals := ⟨by show 1 + 1 ≤ 42; decide, by show 8 + (2 + 11) + 40 * 1 ≤ 40 * 42; decide⟩
theorem rm_42_39_6 {mc ms : Nat} : 39 + 1 ≤ (RM 42 mc ms).frames ∧ 8 + (6 + 11) + 40 * 39 ≤ (RM 42 mc ms).locals := ⟨by show 39 + 1 ≤ 42; decide, by show 8 + (6 + 11) + 40 * 39 ≤ 40 * 42; decide⟩
theorem rm_43_1_2 {mc ms : Nat} : 1 + 1 ≤ (RM 43 mc ms).frames ∧ 8 + (2 + 11) + 40 * 1 ≤ (RM 43 mc ms).locals := ⟨by show 1 + 1 ≤ 43; decide, by show 8 + (2 + 11) + 40 * 1 ≤ 40 * 43; decide⟩
theorem rm_43_42_5 {mc ms : Nat} : 42 + 1 ≤ (RM 43 mc ms).frames ∧ 8 + (5 + 11) + 40 * 42 ≤ (RM 43 mc ms).locals := ⟨by show 42 + 1 ≤ 43; decide, by show 8 + (5 + 11) + 40 * 42 ≤ 40 * 43; decide⟩
theorem rm_44_1_2 {mc ms : Nat} : 1 + 1 ≤ (RM 44 mc ms).frames ∧ 8 + (2 + 11) + 40 * 1 ≤ (RM 44 mc ms).locals := ⟨by show 1 + 1 ≤ 44; decide, by show 8 + (2 + 11) + 40 * 1 ≤ 40 * 44; decide⟩
theorem rm_44_43_6 {mc ms : Nat} : 43 + 1 ≤ (RM 44 mc ms).frames ∧ 8 + (6 + 11) + 40 * 43 ≤ (RM 44 mc ms).locals := ⟨by show 43 + 1 ≤ 44; decide, by show 8 + (6 + 11) + 40 * 43 ≤ 40 * 44; decide⟩
theorem rm_45_1_2 {mc ms : Nat} : 1 + 1 ≤ (RM 45 mc ms).frames ∧ 8 + (2 + 11) + 40 * 1 ≤ (RM 45 mc ms).locals := ⟨by show 1 + 1 ≤ 45; decide, by show 8 + (2 + 11) + 40 * 1 ≤ 40 * 45; decide⟩
theorem rm_45_40_5 {mc ms : Nat} : 40 + 1 ≤ (RM 45 mc ms).frames ∧ 8 + (5 + 11) + 40 * 40 ≤ (RM 45 mc ms).locals := ⟨by show 40 + 1 ≤ 45; decide, by show 8 + (5 + 11) + 40 * 40 ≤ 40 * 45; decide⟩
theorem rm_45_14_3 {mc ms : Nat} : 14 + 1 ≤ (RM 45 mc ms).frames ∧ 8 + (3 + 11) + 40 * 14 ≤ (RM 45 mc ms).locals := ⟨by show 14 + 1 ≤ 45; decide, by show 8 + (3 + 11) + 40 * 14 ≤ 40 * 45; decide⟩
theorem rm_46_1_2 {mc ms : Nat} : 1 + 1 ≤ (RM 46 mc ms).frames ∧ 8 + (2 + 11) + 40 * 1 ≤ (RM 46 mc ms).locals := ⟨by show 1 + 1 ≤ 46; decide, by show 8 + (2 + 11) + 40 * 1 ≤ 40 * 46; decide⟩
theorem rm_46_45_6 {mc ms : Nat} : 45 + 1 ≤ (RM 46 mc ms).frames ∧ 8 + (6 + 11) + 40 * 45 ≤ (RM 46 mc ms).locals := ⟨by show 45 + 1 ≤ 46; decide, by show 8 + (6 + 11) + 40 * 45 ≤ 40 * 46; decide⟩
theorem rm_48_1_2 {mc ms : Nat} : 1 + 1 ≤ (RM 48 mc ms).frames ∧ 8 + (2 + 11) + 40 * 1 ≤ (RM 48 mc ms).locals := ⟨by show 1 + 1 ≤ 48; decide, by show 8 + (2 + 11) + 40 * 1 ≤ 40 * 48; decide⟩
theorem rm_48_1_1 {mc ms : Nat} : 1 + 1 ≤ (RM 48 mc ms).frames ∧ 8 + (1 + 11) + 40 * 1 ≤ (RM 48 mc ms).locals := ⟨by show 1 + 1 ≤ 48; decide, by show 8 + (1 + 11) + 40 * 1 ≤ 40 * 48; decide⟩
theorem rm_48_39_6 {mc ms : Nat} : 39 + 1 ≤ (RM 48 mc ms).frames ∧ 8 + (6 + 11) + 40 * 39 ≤ (RM 48 mc ms).locals := ⟨by show 39 + 1 ≤ 48; decide, by show 8 + (6 + 11) + 40 * 39 ≤ 40 * 48; decide⟩
theorem rm_50_40_5 {mc ms : Nat} : 40 + 1 ≤ (RM 50 mc ms).frames ∧ 8 + (5 + 11) + 40 * 40 ≤ (RM 50 mc ms).locals := ⟨by show 40 + 1 ≤ 50; decide, by show 8 + (5 + 11) + 40 * 40 ≤ 40 * 50; decide⟩
theorem rm_50_42_5 {mc ms : Nat} : 42 + 1 ≤ (RM 50 mc ms).frames ∧ 8 + (5 + 11) + 40 * 42 ≤ (RM 50 mc ms).locals := ⟨by show 42 + 1 ≤ 50; decide, by show 8 + (5 + 11) + 40 * 42 ≤ 40 * 50; decide⟩
theorem rm_50_48_5 {mc ms : Nat} : 48 + 1 ≤ (RM 50 mc ms).frames ∧ 8 + (5 + 11) + 40 * 48 ≤ (RM 50 mc ms).locals := ⟨by show 48 + 1 ≤ 50; decide, by show 8 + (5 + 11) + 40 * 48 ≤ 40 * 50; decide⟩
theorem rm_50_44_5 {mc ms : Nat} : 44 + 1 ≤ (RM 50 mc ms).frames ∧ 8 + (5 + 11) + 40 * 44 ≤ (RM 50 mc ms).locals := ⟨by show 44 + 1 ≤ 50; decide, by show 8 + (5 + 11) + 40 * 44 ≤ 40 * 50; decide⟩
theorem rm_50_46_5 {mc ms : Nat} : 46 + 1 ≤ (RM 50 mc ms).frames ∧ 8 + (5 + 11) + 40 * 46 ≤ (RM 50 mc ms).locals := ⟨by show 46 + 1 ≤ 50; decide, by show 8 + (5 + 11) + 40 * 46 ≤ 40 * 50; decide⟩
theorem rm_60_2_1 {mc ms : Nat} : 2 + 1 ≤ (RM 60 mc ms).frames ∧ 8 + (1 + 11) + 40 * 2 ≤ (RM 60 mc ms).locals := ⟨by show 2 + 1 ≤ 60; decide, by show 8 + (1 + 11) + 40 * 2 ≤ 40 * 60; decide⟩
theorem rm_60_3_4 {mc ms : Nat} : 3 + 1 ≤ (RM 60 mc ms).frames ∧ 8 + (4 + 11) + 40 * 3 ≤ (RM 60 mc ms).locals := ⟨by show 3 + 1 ≤ 60; decide, by show 8 + (4 + 11) + 40 * 3 ≤ 40 * 60; decide⟩
theorem rm_60_1_3 {mc ms : Nat} : 1 + 1 ≤ (RM 60 mc ms).frames ∧ 8 + (3 + 11) + 40 * 1 ≤ (RM 60 mc ms).locals := ⟨by show 1 + 1 ≤ 60; decide, by show 8 + (3 + 11) + 40 * 1 ≤ 40 * 60; decide⟩
theorem rm_60_14_3 {mc ms : Nat} : 14 + 1 ≤ (RM 60 mc ms).frames ∧ 8 + (3 + 11) + 40 * 14 ≤ (RM 60 mc ms).locals := ⟨by show 14 + 1 ≤ 60; decide, by show 8 + (3 + 11) + 40 * 14 ≤ 40 * 60; decide⟩
theorem dj_0_4__1_2_3 : ∀ i ∈ ([1, 2, 3] : List Nat), i ∉ ([0, 4] : List Nat) := by decide
theorem rm_60_26_3 {mc ms : Nat} : 26 + 1 ≤ (RM 60 mc ms).frames ∧ 8 + (3 + 11) + 40 * 26 ≤ (RM 60 mc ms).locals := ⟨by show 26 + 1 ≤ 60; decide, by show 8 + (3 + 11) + 40 * 26 ≤ 40 * 60; decide⟩
theorem rm_60_38_3 {mc ms : Nat} : 38 + 1 ≤ (RM 60 mc ms).frames ∧ 8 + (3 + 11) + 40 * 38 ≤ (RM 60 mc ms).locals := ⟨by show 38 + 1 ≤ 60; decide, by show 8 + (3 + 11) + 40 * 38 ≤ 40 * 60; decide⟩
theorem rm_60_50_3 {mc ms : Nat} : 50 + 1 ≤ (RM 60 mc ms).frames ∧ 8 + (3 + 11) + 40 * 50 ≤ (RM 60 mc ms).locals := ⟨by show 50 + 1 ≤ 60; decide, by show 8 + (3 + 11) + 40 * 50 ≤ 40 * 60; decide⟩
theorem rm_10_5_4 {mc ms : Nat} : 5 + 1 ≤ (RM 10 mc ms).frames ∧ 8 + (4 + 11) + 40 * 5 ≤ (RM 10 mc ms).locals := ⟨by show 5 + 1 ≤ 10; decide, by show 8 + (4 + 11) + 40 * 5 ≤ 40 * 10; decide⟩
def K_m_kindOn (l : Launch) (G : GG) (h0 : Nat) (jt : Nat) (nw : Nat) (nk : Nat) (mhasKept : Int32) (nt : Nat) (mtaped : Int32) (nr : Nat) (mrowMany : Int32) (mroundOf : Int32) (mroundFrom : Int32) (mouts : Int32) (nm : Nat) (mfromHour : Int32) (mtoHour : Int32) (ns : Nat) (mfrom : Int32) (mto : Int32) (msort : Int32) (misFault : Int32) (mdeep : Int32) (mcoded : Int32) (mlines : Int32) (nl : Nat) (nc : Nat) (nF : Nat) (np : Nat) (ntr : Nat) (nb : Nat) (mbestCost : Int32) (nso : Nat) (nsi : Nat) (nit : Nat) (nsh : Nat) (nsf : Nat) (nss : Nat) (nrc : Nat) (mtraced : Int32) (mdealer : Int32) (mnumber : Int32) (mwhose : Int32) (msize : Int32) (misParted : Int32) (fnw : Nat → Int32) (fnsh : Nat → Int32) (fnsf : Nat → Int32) : Prop := MP l G yX12_kindOn cX12_kindOn 4 (some .int) 3 [.ref h0, .int (nI jt)] [(h0, oX12 nw nk mhasKept nt mtaped nr mrowMany mroundOf mroundFrom mouts nm mfromHour mtoHour ns mfrom mto msort misFault mdeep mcoded mlines nl nc nF np ntr nb mbestCost nso nsi nit nsh nsf nss nrc mtraced mdealer mnumber mwhose msize misParted), (nw, iA G 1662 fnw), (nsh, iA G 4 fnsh), (nsf, iA G 4 fnsf)] (fun r : Int32 => r = (-1) ∨ (r = 1 ∧ KO1 (fnsh jt) (fnsf jt) 1 12) ∨ (r = 2 ∧ KO1 (fnsh jt) (fnsf jt) 1 12) ∨ (r = 3 ∧ KO1 (fnsh jt) (fnsf jt) 1 12) ∨ (r = 4 ∧ KO1 (fnsh jt) (fnsf jt) 2 16) ∨ (r = 5 ∧ KO1 (fnsh jt) (fnsf jt) 2 16) ∨ (r = 6 ∧ KO1 (fnsh jt) (fnsf jt) 3 12))
set_option maxHeartbeats 4000000 in
set_option maxRecDepth 100000 in
theorem m_kindOn (l : Launch) (G : GG) (h0 : Nat) (jt : Nat) (nw : Nat) (nk : Nat) (mhasKept : Int32) (nt : Nat) (mtaped : Int32) (nr : Nat) (mrowMany : Int32) (mroundOf : Int32) (mroundFrom : Int32) (mouts : Int32) (nm : Nat) (mfromHour : Int32) (mtoHour : Int32) (ns : Nat) (mfrom : Int32) (mto : Int32) (msort : Int32) (misFault : Int32) (mdeep : Int32) (mcoded : Int32) (mlines : Int32) (nl : Nat) (nc : Nat) (nF : Nat) (np : Nat) (ntr : Nat) (nb : Nat) (mbestCost : Int32) (nso : Nat) (nsi : Nat) (nit : Nat) (nsh : Nat) (nsf : Nat) (nss : Nat) (nrc : Nat) (mtraced : Int32) (mdealer : Int32) (mnumber : Int32) (mwhose : Int32) (msize : Int32) (misParted : Int32) (fnw : Nat → Int32) (fnsh : Nat → Int32) (fnsf : Nat → Int32) (hjt : jt < 4) (hN : NI fnw) : K_m_kindOn l G h0 jt nw nk mhasKept nt mtaped nr mrowMany mroundOf mroundFrom mouts nm mfromHour mtoHour ns mfrom mto msort misFault mdeep mcoded mlines nl nc nF np ntr nb mbestCost nso nsi nit nsh nsf nss nrc mtraced mdealer mnumber mwhose msize misParted fnw fnsh fnsf := by
  refine MP.start (by decide +kernel) (Nat.le_of_ble_eq_true rfl) ?_
  intro p e s m below meth c ls hC hK hP hD hl
  refine absQ (fun Q0 hQ0 => ?_)
  have hl : lv_has ls 4 [(0, .ref h0), (1, .int (nI jt))] := hl
  refine Kan8 hC (fun hx hb hr hml hB hown hlocks hnm => ?_)
  obtain ⟨kq, hkq, ekq⟩ := NI.nat hN (i := 5) (B := 12) (by decide +kernel) (by decide)
  obtain ⟨k8, hk8, ek8⟩ := NI.nat hN (i := 8) (B := 16) (by decide +kernel) (by decide)
  obtain ⟨k9, hk9, ek9⟩ := NI.nat hN (i := 9) (B := 12) (by decide +kernel) (by decide)
  refine lv_aload_n hx hb gX12_kindOn_0.1 rfl (lv_at0 hl) ?_
  refine gf_X12_75 hC rfl hK hP 0 rfl rfl gX12_kindOn_0.2.1 ?_
  refine lv_iload_n hx hb gX12_kindOn_0.2.2.1 rfl (lv_at1 hl) ?_
  refine aldN hC hK hP 3 rfl (k := jt) (by omega) (Nat.le_of_ble_eq_true rfl) (v := fnsf jt) rfl gX12_kindOn_0.2.2.2.1 ?_
  refine lv_topi (fun x5863 ex5863 => ?_)
  refine lv_istore_n (lv' := [(2, .int x5863), (0, .ref h0), (1, .int (nI jt))]) hx hb gX12_kindOn_0.2.2.2.2.1 rfl hl (by decide) rfl (fun ls hl => ?_)
  refine lv_aload_n hx hb gX12_kindOn_0.2.2.2.2.2.1 rfl (lv_at1 hl) ?_
  refine gf_X12_72 hC rfl hK hP 0 rfl rfl gX12_kindOn_0.2.2.2.2.2.2.1 ?_
  refine lv_iload_n hx hb gX12_kindOn_0.2.2.2.2.2.2.2.1 rfl (lv_at2 hl) ?_
  refine aldN hC hK hP 2 rfl (k := jt) (by omega) (Nat.le_of_ble_eq_true rfl) (v := fnsh jt) rfl gX12_kindOn_0.2.2.2.2.2.2.2.2.1 ?_
  refine lv_topi (fun x5864 ex5864 => ?_)
  by_cases c_13_5865 : x5864 = 1
  · refine lv_tableIn (tgt := 40) hx hb gX12_kindOn_0.2.2.2.2.2.2.2.2.2 (by rw [c_13_5865]; decide) (by rw [c_13_5865]; decide) (by rw [c_13_5865]; rfl) (by decide) ?_
    refine lv_aload_n hx hb gX12_kindOn_1.1 rfl (lv_at1 hl) ?_
    refine lv_iload_n hx hb gX12_kindOn_1.2.1 rfl (lv_at0 hl) ?_
    refine lv_iconst (v := 5) hx hb gX12_kindOn_1.2.2.1 (by decide) ?_
    refine pV hC hK hl hP hD (m_is l G kq h0 x5863 5 nw nk mhasKept nt mtaped nr mrowMany mroundOf mroundFrom mouts nm mfromHour mtoHour ns mfrom mto msort misFault mdeep mcoded mlines nl nc nF np ntr nb mbestCost nso nsi nit nsh nsf nss nrc mtraced mdealer mnumber mwhose msize misParted fnw (by omega) (ekq) (by omega)) si_X12_120 [0, 1] sm_0_1 fm_0_1 nd_0_1 rfl rfl rfl rfl rfl (Nat.le_of_ble_eq_true rfl) rm_3_2_3 ⟨by first | exact Nat.le_of_ble_eq_true rfl | exact Nat.zero_le _, by first | exact Nat.le_of_ble_eq_true rfl | exact Nat.zero_le _⟩ gX12_kindOn_1.2.2.2.1 (Kors (Keqa fun a5867 => ?_) (Keqa fun a5867 => ?_))
    · refine lv_if_eq (tgt := 73) hx hb gX12_kindOn_1.2.2.2.2.1 (by decide) (fun c9 => absurd c9 (by decide)) (fun _ => ?_)
      refine lv_aload_n hx hb gX12_kindOn_1.2.2.2.2.2.1 rfl (lv_at1 hl) ?_
      refine lv_iload_n hx hb gX12_kindOn_1.2.2.2.2.2.2.1 rfl (lv_at0 hl) ?_
      obtain ⟨jn5868, hjn5868, ek5868⟩ := Hs_nat (by omega) a5867
      refine eqi (x1 := nI jn5868) ek5868 ?_
      refine lv_iconst (v := 1) hx hb gX12_kindOn_1.2.2.2.2.2.2.2.1 (by decide) ?_
      refine pV hC hK hl hP hD (m_paper l G h0 jn5868 1 nw nk mhasKept nt mtaped nr mrowMany mroundOf mroundFrom mouts nm mfromHour mtoHour ns mfrom mto msort misFault mdeep mcoded mlines nl nc nF np ntr nb mbestCost nso nsi nit nsh nsf nss nrc mtraced mdealer mnumber mwhose msize misParted fnw (by omega) (by omega)) si_X12_88 [0, 1] sm_0_1 fm_0_1 nd_0_1 rfl rfl rfl rfl rfl (Nat.le_of_ble_eq_true rfl) rm_3_1_3 ⟨by first | exact Nat.le_of_ble_eq_true rfl | exact Nat.zero_le _, by first | exact Nat.le_of_ble_eq_true rfl | exact Nat.zero_le _⟩ gX12_kindOn_1.2.2.2.2.2.2.2.2.1 (Keqr ?_)
      refine lv_iconst (v := 1) hx hb gX12_kindOn_1.2.2.2.2.2.2.2.2.2 (by decide) ?_
      refine lv_aload_n hx hb gX12_kindOn_2.1 rfl (lv_at1 hl) ?_
      refine lv_iload_n hx hb gX12_kindOn_2.2.1 rfl (lv_at0 hl) ?_
      obtain ⟨jn5871, hjn5871, ek5871⟩ := Hs_nat (by omega) a5867
      refine eqi (x1 := nI jn5871) ek5871 ?_
      refine lv_iconst (v := 0) hx hb gX12_kindOn_2.2.2.1 (by decide) ?_
      refine pV hC hK hl hP hD (m_paper l G h0 jn5871 0 nw nk mhasKept nt mtaped nr mrowMany mroundOf mroundFrom mouts nm mfromHour mtoHour ns mfrom mto msort misFault mdeep mcoded mlines nl nc nF np ntr nb mbestCost nso nsi nit nsh nsf nss nrc mtraced mdealer mnumber mwhose msize misParted fnw (by omega) (by omega)) si_X12_88 [0, 1] sm_0_1 fm_0_1 nd_0_1 rfl rfl rfl rfl rfl (Nat.le_of_ble_eq_true rfl) rm_3_1_3 ⟨by first | exact Nat.le_of_ble_eq_true rfl | exact Nat.zero_le _, by first | exact Nat.le_of_ble_eq_true rfl | exact Nat.zero_le _⟩ gX12_kindOn_2.2.2.2.1 (Keqr ?_)
      refine lv_ishl hx hb gX12_kindOn_2.2.2.2.2.1 ?_
      refine lv_iconst (v := (-1)) hx hb gX12_kindOn_2.2.2.2.2.2.1 (by decide) ?_
      refine lv_ixor hx hb gX12_kindOn_2.2.2.2.2.2.2.1 ?_
      refine lv_iand hx hb gX12_kindOn_2.2.2.2.2.2.2.2.1 ?_
      refine lv_if_eq (tgt := 73) hx hb gX12_kindOn_2.2.2.2.2.2.2.2.2.1 (by decide) (fun c_66_5874 => ?_) (fun c_66_5874 => ?_)
      · refine lv_iconst (v := 0) hx hb gX12_kindOn_3.2.1 (by decide) ?_
        refine lv_istore_n (lv' := [(3, .int 0), (2, .int x5863), (0, .ref h0), (1, .int (nI jt))]) hx hb gX12_kindOn_3.2.2.1 rfl hl (by decide) rfl (fun ls hl => ?_)
        refine lv_aload_n hx hb gX12_kindOn_3.2.2.2.1 rfl (lv_at2 hl) ?_
        refine lv_iload_n hx hb gX12_kindOn_3.2.2.2.2.1 rfl (lv_at1 hl) ?_
        refine lv_iconst (v := 5) hx hb gX12_kindOn_3.2.2.2.2.2.1 (by decide) ?_
        refine pV hC hK hl hP hD (m_is l G kq h0 x5863 5 nw nk mhasKept nt mtaped nr mrowMany mroundOf mroundFrom mouts nm mfromHour mtoHour ns mfrom mto msort misFault mdeep mcoded mlines nl nc nF np ntr nb mbestCost nso nsi nit nsh nsf nss nrc mtraced mdealer mnumber mwhose msize misParted fnw (by omega) (ekq) (by omega)) si_X12_120 [0, 1] sm_0_1 fm_0_1 nd_0_1 rfl rfl rfl rfl rfl (Nat.le_of_ble_eq_true rfl) rm_3_2_3 ⟨by first | exact Nat.le_of_ble_eq_true rfl | exact Nat.zero_le _, by first | exact Nat.le_of_ble_eq_true rfl | exact Nat.zero_le _⟩ gX12_kindOn_3.2.2.2.2.2.2.1 (Kors (Keqa fun a5876 => ?_) (Keqa fun a5876 => ?_))
        · refine lv_if_ne (tgt := 88) hx hb gX12_kindOn_3.2.2.2.2.2.2.2.1 (by decide) (fun _ => ?_) (fun c9 => absurd c9 (by decide))
          refine lv_iload_n hx hb gX12_kindOn_4.1 rfl (lv_at0 hl) ?_
          refine lv_if_ne (tgt := 96) hx hb gX12_kindOn_4.2.1 (by decide) (fun c9 => absurd (by decide) c9) (fun _ => ?_)
          refine lv_iconst (v := 2) hx hb gX12_kindOn_4.2.2.1 (by decide) ?_
          refine lv_goto (tgt := 110) hx hb gX12_kindOn_4.2.2.2.1 (by decide) ?_
          refine toQ hQ0 ?_
          exact RP (v := 2) hC (Or.inr (Or.inr (Or.inl (⟨rfl, KO1.mk (kk := kq) (by omega) (by omega) ex5864 ex5863 c_13_5865 a5876⟩)))) rfl gX12_kindOn_5.2.2.1
        · exact absurd a5867 a5876
      · refine lv_iconst (v := 1) hx hb gX12_kindOn_2.2.2.2.2.2.2.2.2.2 (by decide) ?_
        refine lv_goto (tgt := 74) hx hb gX12_kindOn_3.1 (by decide) ?_
        refine lv_istore_n (lv' := [(3, .int 1), (2, .int x5863), (0, .ref h0), (1, .int (nI jt))]) hx hb gX12_kindOn_3.2.2.1 rfl hl (by decide) rfl (fun ls hl => ?_)
        refine lv_aload_n hx hb gX12_kindOn_3.2.2.2.1 rfl (lv_at2 hl) ?_
        refine lv_iload_n hx hb gX12_kindOn_3.2.2.2.2.1 rfl (lv_at1 hl) ?_
        refine lv_iconst (v := 5) hx hb gX12_kindOn_3.2.2.2.2.2.1 (by decide) ?_
        refine pV hC hK hl hP hD (m_is l G kq h0 x5863 5 nw nk mhasKept nt mtaped nr mrowMany mroundOf mroundFrom mouts nm mfromHour mtoHour ns mfrom mto msort misFault mdeep mcoded mlines nl nc nF np ntr nb mbestCost nso nsi nit nsh nsf nss nrc mtraced mdealer mnumber mwhose msize misParted fnw (by omega) (ekq) (by omega)) si_X12_120 [0, 1] sm_0_1 fm_0_1 nd_0_1 rfl rfl rfl rfl rfl (Nat.le_of_ble_eq_true rfl) rm_3_2_3 ⟨by first | exact Nat.le_of_ble_eq_true rfl | exact Nat.zero_le _, by first | exact Nat.le_of_ble_eq_true rfl | exact Nat.zero_le _⟩ gX12_kindOn_3.2.2.2.2.2.2.1 (Kors (Keqa fun a5878 => ?_) (Keqa fun a5878 => ?_))
        · refine lv_if_ne (tgt := 88) hx hb gX12_kindOn_3.2.2.2.2.2.2.2.1 (by decide) (fun _ => ?_) (fun c9 => absurd c9 (by decide))
          refine lv_iload_n hx hb gX12_kindOn_4.1 rfl (lv_at0 hl) ?_
          refine lv_if_ne (tgt := 96) hx hb gX12_kindOn_4.2.1 (by decide) (fun _ => ?_) (fun c9 => absurd c9 (by decide))
          refine lv_aload_n hx hb gX12_kindOn_4.2.2.2.2.1 rfl (lv_at2 hl) ?_
          refine lv_iload_n hx hb gX12_kindOn_4.2.2.2.2.2.1 rfl (lv_at1 hl) ?_
          obtain ⟨jn5879, hjn5879, ek5879⟩ := Hs_nat (by omega) a5878
          refine eqi (x1 := nI jn5879) ek5879 ?_
          refine lv_iconst (v := 3) hx hb gX12_kindOn_4.2.2.2.2.2.2.1 (by decide) ?_
          refine pV hC hK hl hP hD (m_paper l G h0 jn5879 3 nw nk mhasKept nt mtaped nr mrowMany mroundOf mroundFrom mouts nm mfromHour mtoHour ns mfrom mto msort misFault mdeep mcoded mlines nl nc nF np ntr nb mbestCost nso nsi nit nsh nsf nss nrc mtraced mdealer mnumber mwhose msize misParted fnw (by omega) (by omega)) si_X12_88 [0, 1] sm_0_1 fm_0_1 nd_0_1 rfl rfl rfl rfl rfl (Nat.le_of_ble_eq_true rfl) rm_3_1_3 ⟨by first | exact Nat.le_of_ble_eq_true rfl | exact Nat.zero_le _, by first | exact Nat.le_of_ble_eq_true rfl | exact Nat.zero_le _⟩ gX12_kindOn_4.2.2.2.2.2.2.2.1 (Keqr ?_)
          refine lv_if_le (tgt := 109) hx hb gX12_kindOn_4.2.2.2.2.2.2.2.2.1 (by decide) (fun c_102_5882 => ?_) (fun c_102_5882 => ?_)
          · refine lv_iconst (v := 1) hx hb gX12_kindOn_5.2.1 (by decide) ?_
            refine toQ hQ0 ?_
            exact RP (v := 1) hC (Or.inr (Or.inl (⟨rfl, KO1.mk (kk := kq) (by omega) (by omega) ex5864 ex5863 c_13_5865 a5878⟩))) rfl gX12_kindOn_5.2.2.1
          · refine lv_iconst (v := 3) hx hb gX12_kindOn_4.2.2.2.2.2.2.2.2.2 (by decide) ?_
            refine lv_goto (tgt := 110) hx hb gX12_kindOn_5.1 (by decide) ?_
            refine toQ hQ0 ?_
            exact RP (v := 3) hC (Or.inr (Or.inr (Or.inr (Or.inl (⟨rfl, KO1.mk (kk := kq) (by omega) (by omega) ex5864 ex5863 c_13_5865 a5878⟩))))) rfl gX12_kindOn_5.2.2.1
        · exact absurd a5867 a5878
    · refine lv_if_eq (tgt := 73) hx hb gX12_kindOn_1.2.2.2.2.1 (by decide) (fun _ => ?_) (fun c9 => absurd (by decide) c9)
      refine lv_iconst (v := 0) hx hb gX12_kindOn_3.2.1 (by decide) ?_
      refine lv_istore_n (lv' := [(3, .int 0), (2, .int x5863), (0, .ref h0), (1, .int (nI jt))]) hx hb gX12_kindOn_3.2.2.1 rfl hl (by decide) rfl (fun ls hl => ?_)
      refine lv_aload_n hx hb gX12_kindOn_3.2.2.2.1 rfl (lv_at2 hl) ?_
      refine lv_iload_n hx hb gX12_kindOn_3.2.2.2.2.1 rfl (lv_at1 hl) ?_
      refine lv_iconst (v := 5) hx hb gX12_kindOn_3.2.2.2.2.2.1 (by decide) ?_
      refine pV hC hK hl hP hD (m_is l G kq h0 x5863 5 nw nk mhasKept nt mtaped nr mrowMany mroundOf mroundFrom mouts nm mfromHour mtoHour ns mfrom mto msort misFault mdeep mcoded mlines nl nc nF np ntr nb mbestCost nso nsi nit nsh nsf nss nrc mtraced mdealer mnumber mwhose msize misParted fnw (by omega) (ekq) (by omega)) si_X12_120 [0, 1] sm_0_1 fm_0_1 nd_0_1 rfl rfl rfl rfl rfl (Nat.le_of_ble_eq_true rfl) rm_3_2_3 ⟨by first | exact Nat.le_of_ble_eq_true rfl | exact Nat.zero_le _, by first | exact Nat.le_of_ble_eq_true rfl | exact Nat.zero_le _⟩ gX12_kindOn_3.2.2.2.2.2.2.1 (Kors (Keqa fun a5884 => ?_) (Keqa fun a5884 => ?_))
      · exact absurd a5884 a5867
      · refine lv_if_ne (tgt := 88) hx hb gX12_kindOn_3.2.2.2.2.2.2.2.1 (by decide) (fun c9 => absurd (by decide) c9) (fun _ => ?_)
        refine lv_iconst (v := (-1)) hx hb gX12_kindOn_3.2.2.2.2.2.2.2.2.1 (by decide) ?_
        refine lv_goto (tgt := 110) hx hb gX12_kindOn_3.2.2.2.2.2.2.2.2.2 (by decide) ?_
        refine toQ hQ0 ?_
        exact RP (v := (-1)) hC (Or.inl (rfl)) rfl gX12_kindOn_5.2.2.1
  by_cases c_13_5885 : x5864 = 2
  · refine lv_tableIn (tgt := 111) hx hb gX12_kindOn_0.2.2.2.2.2.2.2.2.2 (by rw [c_13_5885]; decide) (by rw [c_13_5885]; decide) (by rw [c_13_5885]; rfl) (by decide) ?_
    refine lv_aload_n hx hb gX12_kindOn_5.2.2.2.1 rfl (lv_at1 hl) ?_
    refine lv_iload_n hx hb gX12_kindOn_5.2.2.2.2.1 rfl (lv_at0 hl) ?_
    refine lv_bipush (v := 8) hx hb gX12_kindOn_5.2.2.2.2.2.1 (by decide) ?_
    refine pV hC hK hl hP hD (m_is l G k8 h0 x5863 8 nw nk mhasKept nt mtaped nr mrowMany mroundOf mroundFrom mouts nm mfromHour mtoHour ns mfrom mto msort misFault mdeep mcoded mlines nl nc nF np ntr nb mbestCost nso nsi nit nsh nsf nss nrc mtraced mdealer mnumber mwhose msize misParted fnw (by omega) (ek8) (by omega)) si_X12_120 [0, 1] sm_0_1 fm_0_1 nd_0_1 rfl rfl rfl rfl rfl (Nat.le_of_ble_eq_true rfl) rm_3_2_3 ⟨by first | exact Nat.le_of_ble_eq_true rfl | exact Nat.zero_le _, by first | exact Nat.le_of_ble_eq_true rfl | exact Nat.zero_le _⟩ gX12_kindOn_5.2.2.2.2.2.2.1 (Kors (Keqa fun a5887 => ?_) (Keqa fun a5887 => ?_))
    · refine lv_if_ne (tgt := 125) hx hb gX12_kindOn_5.2.2.2.2.2.2.2.1 (by decide) (fun _ => ?_) (fun c9 => absurd c9 (by decide))
      refine lv_aload_n hx hb gX12_kindOn_6.1 rfl (lv_at1 hl) ?_
      refine lv_iload_n hx hb gX12_kindOn_6.2.1 rfl (lv_at0 hl) ?_
      obtain ⟨jn5888, hjn5888, ek5888⟩ := Hs_nat (by omega) a5887
      refine eqi (x1 := nI jn5888) ek5888 ?_
      refine lv_bipush (v := 6) hx hb gX12_kindOn_6.2.2.1 (by decide) ?_
      refine pV hC hK hl hP hD (m_saying l G h0 jn5888 6 nw nk mhasKept nt mtaped nr mrowMany mroundOf mroundFrom mouts nm mfromHour mtoHour ns mfrom mto msort misFault mdeep mcoded mlines nl nc nF np ntr nb mbestCost nso nsi nit nsh nsf nss nrc mtraced mdealer mnumber mwhose msize misParted fnw (by omega) (by omega)) si_X12_114 [0, 1] sm_0_1 fm_0_1 nd_0_1 rfl rfl rfl rfl rfl (Nat.le_of_ble_eq_true rfl) rm_3_1_3 ⟨by first | exact Nat.le_of_ble_eq_true rfl | exact Nat.zero_le _, by first | exact Nat.le_of_ble_eq_true rfl | exact Nat.zero_le _⟩ gX12_kindOn_6.2.2.2.1 (Keqr ?_)
      refine lv_if_ge (tgt := 139) hx hb gX12_kindOn_6.2.2.2.2.1 (by decide) (fun c_132_5891 => ?_) (fun c_132_5891 => ?_)
      · refine lv_iconst (v := 4) hx hb gX12_kindOn_6.2.2.2.2.2.2.2.1 (by decide) ?_
        refine toQ hQ0 ?_
        exact RP (v := 4) hC (Or.inr (Or.inr (Or.inr (Or.inr (Or.inl (⟨rfl, KO1.mk (kk := k8) (by omega) (by omega) ex5864 ex5863 c_13_5885 a5887⟩)))))) rfl gX12_kindOn_6.2.2.2.2.2.2.2.2.1
      · refine lv_iconst (v := 5) hx hb gX12_kindOn_6.2.2.2.2.2.1 (by decide) ?_
        refine lv_goto (tgt := 140) hx hb gX12_kindOn_6.2.2.2.2.2.2.1 (by decide) ?_
        refine toQ hQ0 ?_
        exact RP (v := 5) hC (Or.inr (Or.inr (Or.inr (Or.inr (Or.inr (Or.inl (⟨rfl, KO1.mk (kk := k8) (by omega) (by omega) ex5864 ex5863 c_13_5885 a5887⟩))))))) rfl gX12_kindOn_6.2.2.2.2.2.2.2.2.1
    · refine lv_if_ne (tgt := 125) hx hb gX12_kindOn_5.2.2.2.2.2.2.2.1 (by decide) (fun c9 => absurd (by decide) c9) (fun _ => ?_)
      refine lv_iconst (v := (-1)) hx hb gX12_kindOn_5.2.2.2.2.2.2.2.2.1 (by decide) ?_
      refine lv_goto (tgt := 140) hx hb gX12_kindOn_5.2.2.2.2.2.2.2.2.2 (by decide) ?_
      refine toQ hQ0 ?_
      exact RP (v := (-1)) hC (Or.inl (rfl)) rfl gX12_kindOn_6.2.2.2.2.2.2.2.2.1
  by_cases c_13_5892 : x5864 = 3
  · refine lv_tableIn (tgt := 141) hx hb gX12_kindOn_0.2.2.2.2.2.2.2.2.2 (by rw [c_13_5892]; decide) (by rw [c_13_5892]; decide) (by rw [c_13_5892]; rfl) (by decide) ?_
    refine lv_aload_n hx hb gX12_kindOn_6.2.2.2.2.2.2.2.2.2 rfl (lv_at1 hl) ?_
    refine lv_iload_n hx hb gX12_kindOn_7.1 rfl (lv_at0 hl) ?_
    refine lv_bipush (v := 9) hx hb gX12_kindOn_7.2.1 (by decide) ?_
    refine pV hC hK hl hP hD (m_is l G k9 h0 x5863 9 nw nk mhasKept nt mtaped nr mrowMany mroundOf mroundFrom mouts nm mfromHour mtoHour ns mfrom mto msort misFault mdeep mcoded mlines nl nc nF np ntr nb mbestCost nso nsi nit nsh nsf nss nrc mtraced mdealer mnumber mwhose msize misParted fnw (by omega) (ek9) (by omega)) si_X12_120 [0, 1] sm_0_1 fm_0_1 nd_0_1 rfl rfl rfl rfl rfl (Nat.le_of_ble_eq_true rfl) rm_3_2_3 ⟨by first | exact Nat.le_of_ble_eq_true rfl | exact Nat.zero_le _, by first | exact Nat.le_of_ble_eq_true rfl | exact Nat.zero_le _⟩ gX12_kindOn_7.2.2.1 (Kors (Keqa fun a5894 => ?_) (Keqa fun a5894 => ?_))
    · refine lv_if_eq (tgt := 156) hx hb gX12_kindOn_7.2.2.2.1 (by decide) (fun c9 => absurd c9 (by decide)) (fun _ => ?_)
      refine lv_bipush (v := 6) hx hb gX12_kindOn_7.2.2.2.2.1 (by decide) ?_
      refine lv_goto (tgt := 157) hx hb gX12_kindOn_7.2.2.2.2.2.1 (by decide) ?_
      refine toQ hQ0 ?_
      exact RP (v := 6) hC (Or.inr (Or.inr (Or.inr (Or.inr (Or.inr (Or.inr (⟨rfl, KO1.mk (kk := k9) (by omega) (by omega) ex5864 ex5863 c_13_5892 a5894⟩))))))) rfl gX12_kindOn_7.2.2.2.2.2.2.2.1
    · refine lv_if_eq (tgt := 156) hx hb gX12_kindOn_7.2.2.2.1 (by decide) (fun _ => ?_) (fun c9 => absurd (by decide) c9)
      refine lv_iconst (v := (-1)) hx hb gX12_kindOn_7.2.2.2.2.2.2.1 (by decide) ?_
      refine toQ hQ0 ?_
      exact RP (v := (-1)) hC (Or.inl (rfl)) rfl gX12_kindOn_7.2.2.2.2.2.2.2.1
  refine lv_tableOut (tgt := 158) hx hb gX12_kindOn_0.2.2.2.2.2.2.2.2.2 (by have q9 := sw_1_3 (x := x5864); simp only [c_13_5865, c_13_5885, c_13_5892, not_false_eq_true, true_implies] at q9; exact q9) (by decide) ?_
  refine lv_iconst (v := (-1)) hx hb gX12_kindOn_7.2.2.2.2.2.2.2.2.1 (by decide) ?_
  refine toQ hQ0 ?_
  exact RP (v := (-1)) hC (Or.inl (rfl)) rfl gX12_kindOn_7.2.2.2.2.2.2.2.2.2
def K_m_above0 (l : Launch) (G : GG) : Prop := MP l G yX12_above cX12_above 1 (some .int) 1 [.int 0] [] (fun r : Int32 => r = (-1))
set_option maxHeartbeats 4000000 in
set_option maxRecDepth 100000 in
theorem m_above0 (l : Launch) (G : GG) : K_m_above0 l G := by
  refine MP.start (by decide +kernel) (Nat.le_of_ble_eq_true rfl) ?_
  intro p e s m below meth c ls hC hK hP hD hl
  refine absQ (fun Q0 hQ0 => ?_)
  have hl : lv_has ls 1 [(0, .int 0)] := hl
  refine Kan8 hC (fun hx hb hr hml hB hown hlocks hnm => ?_)
  refine lv_iload_n hx hb gX12_above_0.1 rfl (lv_at0 hl) ?_
  refine lv_iconst (v := 3) hx hb gX12_above_0.2.1 (by decide) ?_
  refine lv_icmp_ne (tgt := 9) hx hb gX12_above_0.2.2.1 (by decide) (fun _ => ?_) (fun c9 => absurd c9 (by decide))
  refine lv_iload_n hx hb gX12_above_0.2.2.2.2.2.1 rfl (lv_at0 hl) ?_
  refine lv_iconst (v := 5) hx hb gX12_above_0.2.2.2.2.2.2.1 (by decide) ?_
  refine lv_icmp_ne (tgt := 18) hx hb gX12_above_0.2.2.2.2.2.2.2.1 (by decide) (fun _ => ?_) (fun c9 => absurd c9 (by decide))
  refine lv_iload_n hx hb gX12_above_1.1 rfl (lv_at0 hl) ?_
  refine lv_if_ne (tgt := 26) hx hb gX12_above_1.2.1 (by decide) (fun c9 => absurd (by decide) c9) (fun _ => ?_)
  refine lv_iconst (v := (-1)) hx hb gX12_above_1.2.2.1 (by decide) ?_
  refine lv_goto (tgt := 27) hx hb gX12_above_1.2.2.2.1 (by decide) ?_
  refine toQ hQ0 ?_
  exact RP (v := (-1)) hC (rfl) rfl gX12_above_1.2.2.2.2.2
def K_m_above1 (l : Launch) (G : GG) : Prop := MP l G yX12_above cX12_above 1 (some .int) 1 [.int 1] [] (fun r : Int32 => r = 0)
set_option maxHeartbeats 4000000 in
set_option maxRecDepth 100000 in
theorem m_above1 (l : Launch) (G : GG) : K_m_above1 l G := by
  refine MP.start (by decide +kernel) (Nat.le_of_ble_eq_true rfl) ?_
  intro p e s m below meth c ls hC hK hP hD hl
  refine absQ (fun Q0 hQ0 => ?_)
  have hl : lv_has ls 1 [(0, .int 1)] := hl
  refine Kan8 hC (fun hx hb hr hml hB hown hlocks hnm => ?_)
  refine lv_iload_n hx hb gX12_above_0.1 rfl (lv_at0 hl) ?_
  refine lv_iconst (v := 3) hx hb gX12_above_0.2.1 (by decide) ?_
  refine lv_icmp_ne (tgt := 9) hx hb gX12_above_0.2.2.1 (by decide) (fun _ => ?_) (fun c9 => absurd c9 (by decide))
  refine lv_iload_n hx hb gX12_above_0.2.2.2.2.2.1 rfl (lv_at0 hl) ?_
  refine lv_iconst (v := 5) hx hb gX12_above_0.2.2.2.2.2.2.1 (by decide) ?_
  refine lv_icmp_ne (tgt := 18) hx hb gX12_above_0.2.2.2.2.2.2.2.1 (by decide) (fun _ => ?_) (fun c9 => absurd c9 (by decide))
  refine lv_iload_n hx hb gX12_above_1.1 rfl (lv_at0 hl) ?_
  refine lv_if_ne (tgt := 26) hx hb gX12_above_1.2.1 (by decide) (fun _ => ?_) (fun c9 => absurd c9 (by decide))
  refine lv_iconst (v := 0) hx hb gX12_above_1.2.2.2.2.1 (by decide) ?_
  refine toQ hQ0 ?_
  exact RP (v := 0) hC (rfl) rfl gX12_above_1.2.2.2.2.2
def K_m_above2 (l : Launch) (G : GG) : Prop := MP l G yX12_above cX12_above 1 (some .int) 1 [.int 2] [] (fun r : Int32 => r = 0)
set_option maxHeartbeats 4000000 in
set_option maxRecDepth 100000 in
theorem m_above2 (l : Launch) (G : GG) : K_m_above2 l G := by
  refine MP.start (by decide +kernel) (Nat.le_of_ble_eq_true rfl) ?_
  intro p e s m below meth c ls hC hK hP hD hl
  refine absQ (fun Q0 hQ0 => ?_)
  have hl : lv_has ls 1 [(0, .int 2)] := hl
  refine Kan8 hC (fun hx hb hr hml hB hown hlocks hnm => ?_)
  refine lv_iload_n hx hb gX12_above_0.1 rfl (lv_at0 hl) ?_
  refine lv_iconst (v := 3) hx hb gX12_above_0.2.1 (by decide) ?_
  refine lv_icmp_ne (tgt := 9) hx hb gX12_above_0.2.2.1 (by decide) (fun _ => ?_) (fun c9 => absurd c9 (by decide))
  refine lv_iload_n hx hb gX12_above_0.2.2.2.2.2.1 rfl (lv_at0 hl) ?_
  refine lv_iconst (v := 5) hx hb gX12_above_0.2.2.2.2.2.2.1 (by decide) ?_
  refine lv_icmp_ne (tgt := 18) hx hb gX12_above_0.2.2.2.2.2.2.2.1 (by decide) (fun _ => ?_) (fun c9 => absurd c9 (by decide))
  refine lv_iload_n hx hb gX12_above_1.1 rfl (lv_at0 hl) ?_
  refine lv_if_ne (tgt := 26) hx hb gX12_above_1.2.1 (by decide) (fun _ => ?_) (fun c9 => absurd c9 (by decide))
  refine lv_iconst (v := 0) hx hb gX12_above_1.2.2.2.2.1 (by decide) ?_
  refine toQ hQ0 ?_
  exact RP (v := 0) hC (rfl) rfl gX12_above_1.2.2.2.2.2
def K_m_above3 (l : Launch) (G : GG) : Prop := MP l G yX12_above cX12_above 1 (some .int) 1 [.int 3] [] (fun r : Int32 => r = 1)
set_option maxHeartbeats 4000000 in
set_option maxRecDepth 100000 in
theorem m_above3 (l : Launch) (G : GG) : K_m_above3 l G := by
  refine MP.start (by decide +kernel) (Nat.le_of_ble_eq_true rfl) ?_
  intro p e s m below meth c ls hC hK hP hD hl
  refine absQ (fun Q0 hQ0 => ?_)
  have hl : lv_has ls 1 [(0, .int 3)] := hl
  refine Kan8 hC (fun hx hb hr hml hB hown hlocks hnm => ?_)
  refine lv_iload_n hx hb gX12_above_0.1 rfl (lv_at0 hl) ?_
  refine lv_iconst (v := 3) hx hb gX12_above_0.2.1 (by decide) ?_
  refine lv_icmp_ne (tgt := 9) hx hb gX12_above_0.2.2.1 (by decide) (fun c9 => absurd (by decide) c9) (fun _ => ?_)
  refine lv_iconst (v := 1) hx hb gX12_above_0.2.2.2.1 (by decide) ?_
  refine lv_goto (tgt := 27) hx hb gX12_above_0.2.2.2.2.1 (by decide) ?_
  refine toQ hQ0 ?_
  exact RP (v := 1) hC (rfl) rfl gX12_above_1.2.2.2.2.2
def K_m_above4 (l : Launch) (G : GG) : Prop := MP l G yX12_above cX12_above 1 (some .int) 1 [.int 4] [] (fun r : Int32 => r = 0)
set_option maxHeartbeats 4000000 in
set_option maxRecDepth 100000 in
theorem m_above4 (l : Launch) (G : GG) : K_m_above4 l G := by
  refine MP.start (by decide +kernel) (Nat.le_of_ble_eq_true rfl) ?_
  intro p e s m below meth c ls hC hK hP hD hl
  refine absQ (fun Q0 hQ0 => ?_)
  have hl : lv_has ls 1 [(0, .int 4)] := hl
  refine Kan8 hC (fun hx hb hr hml hB hown hlocks hnm => ?_)
  refine lv_iload_n hx hb gX12_above_0.1 rfl (lv_at0 hl) ?_
  refine lv_iconst (v := 3) hx hb gX12_above_0.2.1 (by decide) ?_
  refine lv_icmp_ne (tgt := 9) hx hb gX12_above_0.2.2.1 (by decide) (fun _ => ?_) (fun c9 => absurd c9 (by decide))
  refine lv_iload_n hx hb gX12_above_0.2.2.2.2.2.1 rfl (lv_at0 hl) ?_
  refine lv_iconst (v := 5) hx hb gX12_above_0.2.2.2.2.2.2.1 (by decide) ?_
  refine lv_icmp_ne (tgt := 18) hx hb gX12_above_0.2.2.2.2.2.2.2.1 (by decide) (fun _ => ?_) (fun c9 => absurd c9 (by decide))
  refine lv_iload_n hx hb gX12_above_1.1 rfl (lv_at0 hl) ?_
  refine lv_if_ne (tgt := 26) hx hb gX12_above_1.2.1 (by decide) (fun _ => ?_) (fun c9 => absurd c9 (by decide))
  refine lv_iconst (v := 0) hx hb gX12_above_1.2.2.2.2.1 (by decide) ?_
  refine toQ hQ0 ?_
  exact RP (v := 0) hC (rfl) rfl gX12_above_1.2.2.2.2.2
def K_m_above5 (l : Launch) (G : GG) : Prop := MP l G yX12_above cX12_above 1 (some .int) 1 [.int 5] [] (fun r : Int32 => r = 4)
set_option maxHeartbeats 4000000 in
set_option maxRecDepth 100000 in
theorem m_above5 (l : Launch) (G : GG) : K_m_above5 l G := by
  refine MP.start (by decide +kernel) (Nat.le_of_ble_eq_true rfl) ?_
  intro p e s m below meth c ls hC hK hP hD hl
  refine absQ (fun Q0 hQ0 => ?_)
  have hl : lv_has ls 1 [(0, .int 5)] := hl
  refine Kan8 hC (fun hx hb hr hml hB hown hlocks hnm => ?_)
  refine lv_iload_n hx hb gX12_above_0.1 rfl (lv_at0 hl) ?_
  refine lv_iconst (v := 3) hx hb gX12_above_0.2.1 (by decide) ?_
  refine lv_icmp_ne (tgt := 9) hx hb gX12_above_0.2.2.1 (by decide) (fun _ => ?_) (fun c9 => absurd c9 (by decide))
  refine lv_iload_n hx hb gX12_above_0.2.2.2.2.2.1 rfl (lv_at0 hl) ?_
  refine lv_iconst (v := 5) hx hb gX12_above_0.2.2.2.2.2.2.1 (by decide) ?_
  refine lv_icmp_ne (tgt := 18) hx hb gX12_above_0.2.2.2.2.2.2.2.1 (by decide) (fun c9 => absurd (by decide) c9) (fun _ => ?_)
  refine lv_iconst (v := 4) hx hb gX12_above_0.2.2.2.2.2.2.2.2.1 (by decide) ?_
  refine lv_goto (tgt := 27) hx hb gX12_above_0.2.2.2.2.2.2.2.2.2 (by decide) ?_
  refine toQ hQ0 ?_
  exact RP (v := 4) hC (rfl) rfl gX12_above_1.2.2.2.2.2
def K_m_above6 (l : Launch) (G : GG) : Prop := MP l G yX12_above cX12_above 1 (some .int) 1 [.int 6] [] (fun r : Int32 => r = 0)
set_option maxHeartbeats 4000000 in
set_option maxRecDepth 100000 in
theorem m_above6 (l : Launch) (G : GG) : K_m_above6 l G := by
  refine MP.start (by decide +kernel) (Nat.le_of_ble_eq_true rfl) ?_
  intro p e s m below meth c ls hC hK hP hD hl
  refine absQ (fun Q0 hQ0 => ?_)
  have hl : lv_has ls 1 [(0, .int 6)] := hl
  refine Kan8 hC (fun hx hb hr hml hB hown hlocks hnm => ?_)
  refine lv_iload_n hx hb gX12_above_0.1 rfl (lv_at0 hl) ?_
  refine lv_iconst (v := 3) hx hb gX12_above_0.2.1 (by decide) ?_
  refine lv_icmp_ne (tgt := 9) hx hb gX12_above_0.2.2.1 (by decide) (fun _ => ?_) (fun c9 => absurd c9 (by decide))
  refine lv_iload_n hx hb gX12_above_0.2.2.2.2.2.1 rfl (lv_at0 hl) ?_
  refine lv_iconst (v := 5) hx hb gX12_above_0.2.2.2.2.2.2.1 (by decide) ?_
  refine lv_icmp_ne (tgt := 18) hx hb gX12_above_0.2.2.2.2.2.2.2.1 (by decide) (fun _ => ?_) (fun c9 => absurd c9 (by decide))
  refine lv_iload_n hx hb gX12_above_1.1 rfl (lv_at0 hl) ?_
  refine lv_if_ne (tgt := 26) hx hb gX12_above_1.2.1 (by decide) (fun _ => ?_) (fun c9 => absurd c9 (by decide))
  refine lv_iconst (v := 0) hx hb gX12_above_1.2.2.2.2.1 (by decide) ?_
  refine toQ hQ0 ?_
  exact RP (v := 0) hC (rfl) rfl gX12_above_1.2.2.2.2.2
def K_m_hasOwn00 (l : Launch) (G : GG) : Prop := MP l G yX12_hasOwn cX12_hasOwn 2 (some .boolean) 1 [.int 0, .int 0] [] (fun r : Int32 => r = 1)
set_option maxHeartbeats 4000000 in
set_option maxRecDepth 100000 in
theorem m_hasOwn00 (l : Launch) (G : GG) : K_m_hasOwn00 l G := by
  refine MP.start (by decide +kernel) (Nat.le_of_ble_eq_true rfl) ?_
  intro p e s m below meth c ls hC hK hP hD hl
  refine absQ (fun Q0 hQ0 => ?_)
  have hl : lv_has ls 2 [(0, .int 0), (1, .int 0)] := hl
  refine Kan8 hC (fun hx hb hr hml hB hown hlocks hnm => ?_)
  refine lv_iload_n hx hb gX12_hasOwn_0.1 rfl (lv_at0 hl) ?_
  refine lv_tableIn (tgt := 40) hx hb gX12_hasOwn_0.2.1 (by decide) (by decide) rfl (by decide) ?_
  refine lv_iconst (v := 1) hx hb gX12_hasOwn_0.2.2.1 (by decide) ?_
  refine toQ hQ0 ?_
  exact RP (v := 1) hC (rfl) (by decide +kernel) gX12_hasOwn_0.2.2.2.1
def K_m_hasOwn01 (l : Launch) (G : GG) : Prop := MP l G yX12_hasOwn cX12_hasOwn 2 (some .boolean) 1 [.int 0, .int 1] [] (fun r : Int32 => r = 1)
set_option maxHeartbeats 4000000 in
set_option maxRecDepth 100000 in
theorem m_hasOwn01 (l : Launch) (G : GG) : K_m_hasOwn01 l G := by
  refine MP.start (by decide +kernel) (Nat.le_of_ble_eq_true rfl) ?_
  intro p e s m below meth c ls hC hK hP hD hl
  refine absQ (fun Q0 hQ0 => ?_)
  have hl : lv_has ls 2 [(0, .int 0), (1, .int 1)] := hl
  refine Kan8 hC (fun hx hb hr hml hB hown hlocks hnm => ?_)
  refine lv_iload_n hx hb gX12_hasOwn_0.1 rfl (lv_at0 hl) ?_
  refine lv_tableIn (tgt := 40) hx hb gX12_hasOwn_0.2.1 (by decide) (by decide) rfl (by decide) ?_
  refine lv_iconst (v := 1) hx hb gX12_hasOwn_0.2.2.1 (by decide) ?_
  refine toQ hQ0 ?_
  exact RP (v := 1) hC (rfl) (by decide +kernel) gX12_hasOwn_0.2.2.2.1
def K_m_hasOwn02 (l : Launch) (G : GG) : Prop := MP l G yX12_hasOwn cX12_hasOwn 2 (some .boolean) 1 [.int 0, .int 2] [] (fun r : Int32 => r = 1)
set_option maxHeartbeats 4000000 in
set_option maxRecDepth 100000 in
theorem m_hasOwn02 (l : Launch) (G : GG) : K_m_hasOwn02 l G := by
  refine MP.start (by decide +kernel) (Nat.le_of_ble_eq_true rfl) ?_
  intro p e s m below meth c ls hC hK hP hD hl
  refine absQ (fun Q0 hQ0 => ?_)
  have hl : lv_has ls 2 [(0, .int 0), (1, .int 2)] := hl
  refine Kan8 hC (fun hx hb hr hml hB hown hlocks hnm => ?_)
  refine lv_iload_n hx hb gX12_hasOwn_0.1 rfl (lv_at0 hl) ?_
  refine lv_tableIn (tgt := 40) hx hb gX12_hasOwn_0.2.1 (by decide) (by decide) rfl (by decide) ?_
  refine lv_iconst (v := 1) hx hb gX12_hasOwn_0.2.2.1 (by decide) ?_
  refine toQ hQ0 ?_
  exact RP (v := 1) hC (rfl) (by decide +kernel) gX12_hasOwn_0.2.2.2.1
def K_m_hasOwn03 (l : Launch) (G : GG) : Prop := MP l G yX12_hasOwn cX12_hasOwn 2 (some .boolean) 1 [.int 0, .int 3] [] (fun r : Int32 => r = 1)
set_option maxHeartbeats 4000000 in
set_option maxRecDepth 100000 in
theorem m_hasOwn03 (l : Launch) (G : GG) : K_m_hasOwn03 l G := by
  refine MP.start (by decide +kernel) (Nat.le_of_ble_eq_true rfl) ?_
  intro p e s m below meth c ls hC hK hP hD hl
  refine absQ (fun Q0 hQ0 => ?_)
  have hl : lv_has ls 2 [(0, .int 0), (1, .int 3)] := hl
  refine Kan8 hC (fun hx hb hr hml hB hown hlocks hnm => ?_)
  refine lv_iload_n hx hb gX12_hasOwn_0.1 rfl (lv_at0 hl) ?_
  refine lv_tableIn (tgt := 40) hx hb gX12_hasOwn_0.2.1 (by decide) (by decide) rfl (by decide) ?_
  refine lv_iconst (v := 1) hx hb gX12_hasOwn_0.2.2.1 (by decide) ?_
  refine toQ hQ0 ?_
  exact RP (v := 1) hC (rfl) (by decide +kernel) gX12_hasOwn_0.2.2.2.1
def K_m_hasOwn10 (l : Launch) (G : GG) : Prop := MP l G yX12_hasOwn cX12_hasOwn 2 (some .boolean) 1 [.int 1, .int 0] [] (fun r : Int32 => r = 0)
set_option maxHeartbeats 4000000 in
set_option maxRecDepth 100000 in
theorem m_hasOwn10 (l : Launch) (G : GG) : K_m_hasOwn10 l G := by
  refine MP.start (by decide +kernel) (Nat.le_of_ble_eq_true rfl) ?_
  intro p e s m below meth c ls hC hK hP hD hl
  refine absQ (fun Q0 hQ0 => ?_)
  have hl : lv_has ls 2 [(0, .int 1), (1, .int 0)] := hl
  refine Kan8 hC (fun hx hb hr hml hB hown hlocks hnm => ?_)
  refine lv_iload_n hx hb gX12_hasOwn_0.1 rfl (lv_at0 hl) ?_
  refine lv_tableIn (tgt := 42) hx hb gX12_hasOwn_0.2.1 (by decide) (by decide) rfl (by decide) ?_
  refine lv_iload_n hx hb gX12_hasOwn_0.2.2.2.2.1 rfl (lv_at1 hl) ?_
  refine lv_iconst (v := 1) hx hb gX12_hasOwn_0.2.2.2.2.2.1 (by decide) ?_
  refine lv_icmp_ne (tgt := 51) hx hb gX12_hasOwn_0.2.2.2.2.2.2.1 (by decide) (fun _ => ?_) (fun c9 => absurd c9 (by decide))
  refine lv_iconst (v := 0) hx hb gX12_hasOwn_0.2.2.2.2.2.2.2.2.2 (by decide) ?_
  refine toQ hQ0 ?_
  exact RP (v := 0) hC (rfl) (by decide +kernel) gX12_hasOwn_1.1
def K_m_hasOwn11 (l : Launch) (G : GG) : Prop := MP l G yX12_hasOwn cX12_hasOwn 2 (some .boolean) 1 [.int 1, .int 1] [] (fun r : Int32 => r = 1)
set_option maxHeartbeats 4000000 in
set_option maxRecDepth 100000 in
theorem m_hasOwn11 (l : Launch) (G : GG) : K_m_hasOwn11 l G := by
  refine MP.start (by decide +kernel) (Nat.le_of_ble_eq_true rfl) ?_
  intro p e s m below meth c ls hC hK hP hD hl
  refine absQ (fun Q0 hQ0 => ?_)
  have hl : lv_has ls 2 [(0, .int 1), (1, .int 1)] := hl
  refine Kan8 hC (fun hx hb hr hml hB hown hlocks hnm => ?_)
  refine lv_iload_n hx hb gX12_hasOwn_0.1 rfl (lv_at0 hl) ?_
  refine lv_tableIn (tgt := 42) hx hb gX12_hasOwn_0.2.1 (by decide) (by decide) rfl (by decide) ?_
  refine lv_iload_n hx hb gX12_hasOwn_0.2.2.2.2.1 rfl (lv_at1 hl) ?_
  refine lv_iconst (v := 1) hx hb gX12_hasOwn_0.2.2.2.2.2.1 (by decide) ?_
  refine lv_icmp_ne (tgt := 51) hx hb gX12_hasOwn_0.2.2.2.2.2.2.1 (by decide) (fun c9 => absurd (by decide) c9) (fun _ => ?_)
  refine lv_iconst (v := 1) hx hb gX12_hasOwn_0.2.2.2.2.2.2.2.1 (by decide) ?_
  refine lv_goto (tgt := 52) hx hb gX12_hasOwn_0.2.2.2.2.2.2.2.2.1 (by decide) ?_
  refine toQ hQ0 ?_
  exact RP (v := 1) hC (rfl) (by decide +kernel) gX12_hasOwn_1.1
def K_m_hasOwn12 (l : Launch) (G : GG) : Prop := MP l G yX12_hasOwn cX12_hasOwn 2 (some .boolean) 1 [.int 1, .int 2] [] (fun r : Int32 => r = 0)
set_option maxHeartbeats 4000000 in
set_option maxRecDepth 100000 in
theorem m_hasOwn12 (l : Launch) (G : GG) : K_m_hasOwn12 l G := by
  refine MP.start (by decide +kernel) (Nat.le_of_ble_eq_true rfl) ?_
  intro p e s m below meth c ls hC hK hP hD hl
  refine absQ (fun Q0 hQ0 => ?_)
  have hl : lv_has ls 2 [(0, .int 1), (1, .int 2)] := hl
  refine Kan8 hC (fun hx hb hr hml hB hown hlocks hnm => ?_)
  refine lv_iload_n hx hb gX12_hasOwn_0.1 rfl (lv_at0 hl) ?_
  refine lv_tableIn (tgt := 42) hx hb gX12_hasOwn_0.2.1 (by decide) (by decide) rfl (by decide) ?_
  refine lv_iload_n hx hb gX12_hasOwn_0.2.2.2.2.1 rfl (lv_at1 hl) ?_
  refine lv_iconst (v := 1) hx hb gX12_hasOwn_0.2.2.2.2.2.1 (by decide) ?_
  refine lv_icmp_ne (tgt := 51) hx hb gX12_hasOwn_0.2.2.2.2.2.2.1 (by decide) (fun _ => ?_) (fun c9 => absurd c9 (by decide))
  refine lv_iconst (v := 0) hx hb gX12_hasOwn_0.2.2.2.2.2.2.2.2.2 (by decide) ?_
  refine toQ hQ0 ?_
  exact RP (v := 0) hC (rfl) (by decide +kernel) gX12_hasOwn_1.1
def K_m_hasOwn13 (l : Launch) (G : GG) : Prop := MP l G yX12_hasOwn cX12_hasOwn 2 (some .boolean) 1 [.int 1, .int 3] [] (fun r : Int32 => r = 0)
set_option maxHeartbeats 4000000 in
set_option maxRecDepth 100000 in
theorem m_hasOwn13 (l : Launch) (G : GG) : K_m_hasOwn13 l G := by
  refine MP.start (by decide +kernel) (Nat.le_of_ble_eq_true rfl) ?_
  intro p e s m below meth c ls hC hK hP hD hl
  refine absQ (fun Q0 hQ0 => ?_)
  have hl : lv_has ls 2 [(0, .int 1), (1, .int 3)] := hl
  refine Kan8 hC (fun hx hb hr hml hB hown hlocks hnm => ?_)
  refine lv_iload_n hx hb gX12_hasOwn_0.1 rfl (lv_at0 hl) ?_
  refine lv_tableIn (tgt := 42) hx hb gX12_hasOwn_0.2.1 (by decide) (by decide) rfl (by decide) ?_
  refine lv_iload_n hx hb gX12_hasOwn_0.2.2.2.2.1 rfl (lv_at1 hl) ?_
  refine lv_iconst (v := 1) hx hb gX12_hasOwn_0.2.2.2.2.2.1 (by decide) ?_
  refine lv_icmp_ne (tgt := 51) hx hb gX12_hasOwn_0.2.2.2.2.2.2.1 (by decide) (fun _ => ?_) (fun c9 => absurd c9 (by decide))
  refine lv_iconst (v := 0) hx hb gX12_hasOwn_0.2.2.2.2.2.2.2.2.2 (by decide) ?_
  refine toQ hQ0 ?_
  exact RP (v := 0) hC (rfl) (by decide +kernel) gX12_hasOwn_1.1
def K_m_hasOwn20 (l : Launch) (G : GG) : Prop := MP l G yX12_hasOwn cX12_hasOwn 2 (some .boolean) 1 [.int 2, .int 0] [] (fun r : Int32 => r = 0)
set_option maxHeartbeats 4000000 in
set_option maxRecDepth 100000 in
theorem m_hasOwn20 (l : Launch) (G : GG) : K_m_hasOwn20 l G := by
  refine MP.start (by decide +kernel) (Nat.le_of_ble_eq_true rfl) ?_
  intro p e s m below meth c ls hC hK hP hD hl
  refine absQ (fun Q0 hQ0 => ?_)
  have hl : lv_has ls 2 [(0, .int 2), (1, .int 0)] := hl
  refine Kan8 hC (fun hx hb hr hml hB hown hlocks hnm => ?_)
  refine lv_iload_n hx hb gX12_hasOwn_0.1 rfl (lv_at0 hl) ?_
  refine lv_tableIn (tgt := 53) hx hb gX12_hasOwn_0.2.1 (by decide) (by decide) rfl (by decide) ?_
  refine lv_iload_n hx hb gX12_hasOwn_1.2.1 rfl (lv_at1 hl) ?_
  refine lv_iconst (v := 2) hx hb gX12_hasOwn_1.2.2.1 (by decide) ?_
  refine lv_icmp_ne (tgt := 62) hx hb gX12_hasOwn_1.2.2.2.1 (by decide) (fun _ => ?_) (fun c9 => absurd c9 (by decide))
  refine lv_iconst (v := 0) hx hb gX12_hasOwn_1.2.2.2.2.2.2.1 (by decide) ?_
  refine toQ hQ0 ?_
  exact RP (v := 0) hC (rfl) (by decide +kernel) gX12_hasOwn_1.2.2.2.2.2.2.2.1
def K_m_hasOwn21 (l : Launch) (G : GG) : Prop := MP l G yX12_hasOwn cX12_hasOwn 2 (some .boolean) 1 [.int 2, .int 1] [] (fun r : Int32 => r = 0)
set_option maxHeartbeats 4000000 in
set_option maxRecDepth 100000 in
theorem m_hasOwn21 (l : Launch) (G : GG) : K_m_hasOwn21 l G := by
  refine MP.start (by decide +kernel) (Nat.le_of_ble_eq_true rfl) ?_
  intro p e s m below meth c ls hC hK hP hD hl
  refine absQ (fun Q0 hQ0 => ?_)
  have hl : lv_has ls 2 [(0, .int 2), (1, .int 1)] := hl
  refine Kan8 hC (fun hx hb hr hml hB hown hlocks hnm => ?_)
  refine lv_iload_n hx hb gX12_hasOwn_0.1 rfl (lv_at0 hl) ?_
  refine lv_tableIn (tgt := 53) hx hb gX12_hasOwn_0.2.1 (by decide) (by decide) rfl (by decide) ?_
  refine lv_iload_n hx hb gX12_hasOwn_1.2.1 rfl (lv_at1 hl) ?_
  refine lv_iconst (v := 2) hx hb gX12_hasOwn_1.2.2.1 (by decide) ?_
  refine lv_icmp_ne (tgt := 62) hx hb gX12_hasOwn_1.2.2.2.1 (by decide) (fun _ => ?_) (fun c9 => absurd c9 (by decide))
  refine lv_iconst (v := 0) hx hb gX12_hasOwn_1.2.2.2.2.2.2.1 (by decide) ?_
  refine toQ hQ0 ?_
  exact RP (v := 0) hC (rfl) (by decide +kernel) gX12_hasOwn_1.2.2.2.2.2.2.2.1
def K_m_hasOwn22 (l : Launch) (G : GG) : Prop := MP l G yX12_hasOwn cX12_hasOwn 2 (some .boolean) 1 [.int 2, .int 2] [] (fun r : Int32 => r = 1)
set_option maxHeartbeats 4000000 in
set_option maxRecDepth 100000 in
theorem m_hasOwn22 (l : Launch) (G : GG) : K_m_hasOwn22 l G := by
  refine MP.start (by decide +kernel) (Nat.le_of_ble_eq_true rfl) ?_
  intro p e s m below meth c ls hC hK hP hD hl
  refine absQ (fun Q0 hQ0 => ?_)
  have hl : lv_has ls 2 [(0, .int 2), (1, .int 2)] := hl
  refine Kan8 hC (fun hx hb hr hml hB hown hlocks hnm => ?_)
  refine lv_iload_n hx hb gX12_hasOwn_0.1 rfl (lv_at0 hl) ?_
  refine lv_tableIn (tgt := 53) hx hb gX12_hasOwn_0.2.1 (by decide) (by decide) rfl (by decide) ?_
  refine lv_iload_n hx hb gX12_hasOwn_1.2.1 rfl (lv_at1 hl) ?_
  refine lv_iconst (v := 2) hx hb gX12_hasOwn_1.2.2.1 (by decide) ?_
  refine lv_icmp_ne (tgt := 62) hx hb gX12_hasOwn_1.2.2.2.1 (by decide) (fun c9 => absurd (by decide) c9) (fun _ => ?_)
  refine lv_iconst (v := 1) hx hb gX12_hasOwn_1.2.2.2.2.1 (by decide) ?_
  refine lv_goto (tgt := 63) hx hb gX12_hasOwn_1.2.2.2.2.2.1 (by decide) ?_
  refine toQ hQ0 ?_
  exact RP (v := 1) hC (rfl) (by decide +kernel) gX12_hasOwn_1.2.2.2.2.2.2.2.1
def K_m_hasOwn23 (l : Launch) (G : GG) : Prop := MP l G yX12_hasOwn cX12_hasOwn 2 (some .boolean) 1 [.int 2, .int 3] [] (fun r : Int32 => r = 0)
set_option maxHeartbeats 4000000 in
set_option maxRecDepth 100000 in
theorem m_hasOwn23 (l : Launch) (G : GG) : K_m_hasOwn23 l G := by
  refine MP.start (by decide +kernel) (Nat.le_of_ble_eq_true rfl) ?_
  intro p e s m below meth c ls hC hK hP hD hl
  refine absQ (fun Q0 hQ0 => ?_)
  have hl : lv_has ls 2 [(0, .int 2), (1, .int 3)] := hl
  refine Kan8 hC (fun hx hb hr hml hB hown hlocks hnm => ?_)
  refine lv_iload_n hx hb gX12_hasOwn_0.1 rfl (lv_at0 hl) ?_
  refine lv_tableIn (tgt := 53) hx hb gX12_hasOwn_0.2.1 (by decide) (by decide) rfl (by decide) ?_
  refine lv_iload_n hx hb gX12_hasOwn_1.2.1 rfl (lv_at1 hl) ?_
  refine lv_iconst (v := 2) hx hb gX12_hasOwn_1.2.2.1 (by decide) ?_
  refine lv_icmp_ne (tgt := 62) hx hb gX12_hasOwn_1.2.2.2.1 (by decide) (fun _ => ?_) (fun c9 => absurd c9 (by decide))
  refine lv_iconst (v := 0) hx hb gX12_hasOwn_1.2.2.2.2.2.2.1 (by decide) ?_
  refine toQ hQ0 ?_
  exact RP (v := 0) hC (rfl) (by decide +kernel) gX12_hasOwn_1.2.2.2.2.2.2.2.1
def K_m_hasOwn30 (l : Launch) (G : GG) : Prop := MP l G yX12_hasOwn cX12_hasOwn 2 (some .boolean) 1 [.int 3, .int 0] [] (fun r : Int32 => r = 0)
set_option maxHeartbeats 4000000 in
set_option maxRecDepth 100000 in
theorem m_hasOwn30 (l : Launch) (G : GG) : K_m_hasOwn30 l G := by
  refine MP.start (by decide +kernel) (Nat.le_of_ble_eq_true rfl) ?_
  intro p e s m below meth c ls hC hK hP hD hl
  refine absQ (fun Q0 hQ0 => ?_)
  have hl : lv_has ls 2 [(0, .int 3), (1, .int 0)] := hl
  refine Kan8 hC (fun hx hb hr hml hB hown hlocks hnm => ?_)
  refine lv_iload_n hx hb gX12_hasOwn_0.1 rfl (lv_at0 hl) ?_
  refine lv_tableIn (tgt := 64) hx hb gX12_hasOwn_0.2.1 (by decide) (by decide) rfl (by decide) ?_
  refine lv_iload_n hx hb gX12_hasOwn_1.2.2.2.2.2.2.2.2.1 rfl (lv_at1 hl) ?_
  refine lv_iconst (v := 1) hx hb gX12_hasOwn_1.2.2.2.2.2.2.2.2.2 (by decide) ?_
  refine lv_icmp_eq (tgt := 74) hx hb gX12_hasOwn_2.1 (by decide) (fun c9 => absurd c9 (by decide)) (fun _ => ?_)
  refine lv_iload_n hx hb gX12_hasOwn_2.2.1 rfl (lv_at1 hl) ?_
  refine lv_iconst (v := 3) hx hb gX12_hasOwn_2.2.2.1 (by decide) ?_
  refine lv_icmp_ne (tgt := 78) hx hb gX12_hasOwn_2.2.2.2.1 (by decide) (fun _ => ?_) (fun c9 => absurd c9 (by decide))
  refine lv_iconst (v := 0) hx hb gX12_hasOwn_2.2.2.2.2.2.2.1 (by decide) ?_
  refine toQ hQ0 ?_
  exact RP (v := 0) hC (rfl) (by decide +kernel) gX12_hasOwn_2.2.2.2.2.2.2.2.1
def K_m_hasOwn31 (l : Launch) (G : GG) : Prop := MP l G yX12_hasOwn cX12_hasOwn 2 (some .boolean) 1 [.int 3, .int 1] [] (fun r : Int32 => r = 1)
set_option maxHeartbeats 4000000 in
set_option maxRecDepth 100000 in
theorem m_hasOwn31 (l : Launch) (G : GG) : K_m_hasOwn31 l G := by
  refine MP.start (by decide +kernel) (Nat.le_of_ble_eq_true rfl) ?_
  intro p e s m below meth c ls hC hK hP hD hl
  refine absQ (fun Q0 hQ0 => ?_)
  have hl : lv_has ls 2 [(0, .int 3), (1, .int 1)] := hl
  refine Kan8 hC (fun hx hb hr hml hB hown hlocks hnm => ?_)
  refine lv_iload_n hx hb gX12_hasOwn_0.1 rfl (lv_at0 hl) ?_
  refine lv_tableIn (tgt := 64) hx hb gX12_hasOwn_0.2.1 (by decide) (by decide) rfl (by decide) ?_
  refine lv_iload_n hx hb gX12_hasOwn_1.2.2.2.2.2.2.2.2.1 rfl (lv_at1 hl) ?_
  refine lv_iconst (v := 1) hx hb gX12_hasOwn_1.2.2.2.2.2.2.2.2.2 (by decide) ?_
  refine lv_icmp_eq (tgt := 74) hx hb gX12_hasOwn_2.1 (by decide) (fun _ => ?_) (fun c9 => absurd (by decide) c9)
  refine lv_iconst (v := 1) hx hb gX12_hasOwn_2.2.2.2.2.1 (by decide) ?_
  refine lv_goto (tgt := 79) hx hb gX12_hasOwn_2.2.2.2.2.2.1 (by decide) ?_
  refine toQ hQ0 ?_
  exact RP (v := 1) hC (rfl) (by decide +kernel) gX12_hasOwn_2.2.2.2.2.2.2.2.1
def K_m_hasOwn32 (l : Launch) (G : GG) : Prop := MP l G yX12_hasOwn cX12_hasOwn 2 (some .boolean) 1 [.int 3, .int 2] [] (fun r : Int32 => r = 0)
set_option maxHeartbeats 4000000 in
set_option maxRecDepth 100000 in
theorem m_hasOwn32 (l : Launch) (G : GG) : K_m_hasOwn32 l G := by
  refine MP.start (by decide +kernel) (Nat.le_of_ble_eq_true rfl) ?_
  intro p e s m below meth c ls hC hK hP hD hl
  refine absQ (fun Q0 hQ0 => ?_)
  have hl : lv_has ls 2 [(0, .int 3), (1, .int 2)] := hl
  refine Kan8 hC (fun hx hb hr hml hB hown hlocks hnm => ?_)
  refine lv_iload_n hx hb gX12_hasOwn_0.1 rfl (lv_at0 hl) ?_
  refine lv_tableIn (tgt := 64) hx hb gX12_hasOwn_0.2.1 (by decide) (by decide) rfl (by decide) ?_
  refine lv_iload_n hx hb gX12_hasOwn_1.2.2.2.2.2.2.2.2.1 rfl (lv_at1 hl) ?_
  refine lv_iconst (v := 1) hx hb gX12_hasOwn_1.2.2.2.2.2.2.2.2.2 (by decide) ?_
  refine lv_icmp_eq (tgt := 74) hx hb gX12_hasOwn_2.1 (by decide) (fun c9 => absurd c9 (by decide)) (fun _ => ?_)
  refine lv_iload_n hx hb gX12_hasOwn_2.2.1 rfl (lv_at1 hl) ?_
  refine lv_iconst (v := 3) hx hb gX12_hasOwn_2.2.2.1 (by decide) ?_
  refine lv_icmp_ne (tgt := 78) hx hb gX12_hasOwn_2.2.2.2.1 (by decide) (fun _ => ?_) (fun c9 => absurd c9 (by decide))
  refine lv_iconst (v := 0) hx hb gX12_hasOwn_2.2.2.2.2.2.2.1 (by decide) ?_
  refine toQ hQ0 ?_
  exact RP (v := 0) hC (rfl) (by decide +kernel) gX12_hasOwn_2.2.2.2.2.2.2.2.1
def K_m_hasOwn33 (l : Launch) (G : GG) : Prop := MP l G yX12_hasOwn cX12_hasOwn 2 (some .boolean) 1 [.int 3, .int 3] [] (fun r : Int32 => r = 1)
set_option maxHeartbeats 4000000 in
set_option maxRecDepth 100000 in
theorem m_hasOwn33 (l : Launch) (G : GG) : K_m_hasOwn33 l G := by
  refine MP.start (by decide +kernel) (Nat.le_of_ble_eq_true rfl) ?_
  intro p e s m below meth c ls hC hK hP hD hl
  refine absQ (fun Q0 hQ0 => ?_)
  have hl : lv_has ls 2 [(0, .int 3), (1, .int 3)] := hl
  refine Kan8 hC (fun hx hb hr hml hB hown hlocks hnm => ?_)
  refine lv_iload_n hx hb gX12_hasOwn_0.1 rfl (lv_at0 hl) ?_
  refine lv_tableIn (tgt := 64) hx hb gX12_hasOwn_0.2.1 (by decide) (by decide) rfl (by decide) ?_
  refine lv_iload_n hx hb gX12_hasOwn_1.2.2.2.2.2.2.2.2.1 rfl (lv_at1 hl) ?_
  refine lv_iconst (v := 1) hx hb gX12_hasOwn_1.2.2.2.2.2.2.2.2.2 (by decide) ?_
  refine lv_icmp_eq (tgt := 74) hx hb gX12_hasOwn_2.1 (by decide) (fun c9 => absurd c9 (by decide)) (fun _ => ?_)
  refine lv_iload_n hx hb gX12_hasOwn_2.2.1 rfl (lv_at1 hl) ?_
  refine lv_iconst (v := 3) hx hb gX12_hasOwn_2.2.2.1 (by decide) ?_
  refine lv_icmp_ne (tgt := 78) hx hb gX12_hasOwn_2.2.2.2.1 (by decide) (fun c9 => absurd (by decide) c9) (fun _ => ?_)
  refine lv_iconst (v := 1) hx hb gX12_hasOwn_2.2.2.2.2.1 (by decide) ?_
  refine lv_goto (tgt := 79) hx hb gX12_hasOwn_2.2.2.2.2.2.1 (by decide) ?_
  refine toQ hQ0 ?_
  exact RP (v := 1) hC (rfl) (by decide +kernel) gX12_hasOwn_2.2.2.2.2.2.2.2.1
def K_m_hasOwn40 (l : Launch) (G : GG) : Prop := MP l G yX12_hasOwn cX12_hasOwn 2 (some .boolean) 1 [.int 4, .int 0] [] (fun r : Int32 => r = 1)
set_option maxHeartbeats 4000000 in
set_option maxRecDepth 100000 in
theorem m_hasOwn40 (l : Launch) (G : GG) : K_m_hasOwn40 l G := by
  refine MP.start (by decide +kernel) (Nat.le_of_ble_eq_true rfl) ?_
  intro p e s m below meth c ls hC hK hP hD hl
  refine absQ (fun Q0 hQ0 => ?_)
  have hl : lv_has ls 2 [(0, .int 4), (1, .int 0)] := hl
  refine Kan8 hC (fun hx hb hr hml hB hown hlocks hnm => ?_)
  refine lv_iload_n hx hb gX12_hasOwn_0.1 rfl (lv_at0 hl) ?_
  refine lv_tableIn (tgt := 80) hx hb gX12_hasOwn_0.2.1 (by decide) (by decide) rfl (by decide) ?_
  refine lv_iload_n hx hb gX12_hasOwn_2.2.2.2.2.2.2.2.2.1 rfl (lv_at1 hl) ?_
  refine lv_if_eq (tgt := 89) hx hb gX12_hasOwn_2.2.2.2.2.2.2.2.2.2 (by decide) (fun _ => ?_) (fun c9 => absurd (by decide) c9)
  refine lv_iconst (v := 1) hx hb gX12_hasOwn_3.2.2.2.1 (by decide) ?_
  refine lv_goto (tgt := 94) hx hb gX12_hasOwn_3.2.2.2.2.1 (by decide) ?_
  refine toQ hQ0 ?_
  exact RP (v := 1) hC (rfl) (by decide +kernel) gX12_hasOwn_3.2.2.2.2.2.2.1
def K_m_hasOwn41 (l : Launch) (G : GG) : Prop := MP l G yX12_hasOwn cX12_hasOwn 2 (some .boolean) 1 [.int 4, .int 1] [] (fun r : Int32 => r = 0)
set_option maxHeartbeats 4000000 in
set_option maxRecDepth 100000 in
theorem m_hasOwn41 (l : Launch) (G : GG) : K_m_hasOwn41 l G := by
  refine MP.start (by decide +kernel) (Nat.le_of_ble_eq_true rfl) ?_
  intro p e s m below meth c ls hC hK hP hD hl
  refine absQ (fun Q0 hQ0 => ?_)
  have hl : lv_has ls 2 [(0, .int 4), (1, .int 1)] := hl
  refine Kan8 hC (fun hx hb hr hml hB hown hlocks hnm => ?_)
  refine lv_iload_n hx hb gX12_hasOwn_0.1 rfl (lv_at0 hl) ?_
  refine lv_tableIn (tgt := 80) hx hb gX12_hasOwn_0.2.1 (by decide) (by decide) rfl (by decide) ?_
  refine lv_iload_n hx hb gX12_hasOwn_2.2.2.2.2.2.2.2.2.1 rfl (lv_at1 hl) ?_
  refine lv_if_eq (tgt := 89) hx hb gX12_hasOwn_2.2.2.2.2.2.2.2.2.2 (by decide) (fun c9 => absurd c9 (by decide)) (fun _ => ?_)
  refine lv_iload_n hx hb gX12_hasOwn_3.1 rfl (lv_at1 hl) ?_
  refine lv_iconst (v := 2) hx hb gX12_hasOwn_3.2.1 (by decide) ?_
  refine lv_icmp_ne (tgt := 93) hx hb gX12_hasOwn_3.2.2.1 (by decide) (fun _ => ?_) (fun c9 => absurd c9 (by decide))
  refine lv_iconst (v := 0) hx hb gX12_hasOwn_3.2.2.2.2.2.1 (by decide) ?_
  refine toQ hQ0 ?_
  exact RP (v := 0) hC (rfl) (by decide +kernel) gX12_hasOwn_3.2.2.2.2.2.2.1
def K_m_hasOwn42 (l : Launch) (G : GG) : Prop := MP l G yX12_hasOwn cX12_hasOwn 2 (some .boolean) 1 [.int 4, .int 2] [] (fun r : Int32 => r = 1)
set_option maxHeartbeats 4000000 in
set_option maxRecDepth 100000 in
theorem m_hasOwn42 (l : Launch) (G : GG) : K_m_hasOwn42 l G := by
  refine MP.start (by decide +kernel) (Nat.le_of_ble_eq_true rfl) ?_
  intro p e s m below meth c ls hC hK hP hD hl
  refine absQ (fun Q0 hQ0 => ?_)
  have hl : lv_has ls 2 [(0, .int 4), (1, .int 2)] := hl
  refine Kan8 hC (fun hx hb hr hml hB hown hlocks hnm => ?_)
  refine lv_iload_n hx hb gX12_hasOwn_0.1 rfl (lv_at0 hl) ?_
  refine lv_tableIn (tgt := 80) hx hb gX12_hasOwn_0.2.1 (by decide) (by decide) rfl (by decide) ?_
  refine lv_iload_n hx hb gX12_hasOwn_2.2.2.2.2.2.2.2.2.1 rfl (lv_at1 hl) ?_
  refine lv_if_eq (tgt := 89) hx hb gX12_hasOwn_2.2.2.2.2.2.2.2.2.2 (by decide) (fun c9 => absurd c9 (by decide)) (fun _ => ?_)
  refine lv_iload_n hx hb gX12_hasOwn_3.1 rfl (lv_at1 hl) ?_
  refine lv_iconst (v := 2) hx hb gX12_hasOwn_3.2.1 (by decide) ?_
  refine lv_icmp_ne (tgt := 93) hx hb gX12_hasOwn_3.2.2.1 (by decide) (fun c9 => absurd (by decide) c9) (fun _ => ?_)
  refine lv_iconst (v := 1) hx hb gX12_hasOwn_3.2.2.2.1 (by decide) ?_
  refine lv_goto (tgt := 94) hx hb gX12_hasOwn_3.2.2.2.2.1 (by decide) ?_
  refine toQ hQ0 ?_
  exact RP (v := 1) hC (rfl) (by decide +kernel) gX12_hasOwn_3.2.2.2.2.2.2.1
def K_m_hasOwn43 (l : Launch) (G : GG) : Prop := MP l G yX12_hasOwn cX12_hasOwn 2 (some .boolean) 1 [.int 4, .int 3] [] (fun r : Int32 => r = 0)
set_option maxHeartbeats 4000000 in
set_option maxRecDepth 100000 in
theorem m_hasOwn43 (l : Launch) (G : GG) : K_m_hasOwn43 l G := by
  refine MP.start (by decide +kernel) (Nat.le_of_ble_eq_true rfl) ?_
  intro p e s m below meth c ls hC hK hP hD hl
  refine absQ (fun Q0 hQ0 => ?_)
  have hl : lv_has ls 2 [(0, .int 4), (1, .int 3)] := hl
  refine Kan8 hC (fun hx hb hr hml hB hown hlocks hnm => ?_)
  refine lv_iload_n hx hb gX12_hasOwn_0.1 rfl (lv_at0 hl) ?_
  refine lv_tableIn (tgt := 80) hx hb gX12_hasOwn_0.2.1 (by decide) (by decide) rfl (by decide) ?_
  refine lv_iload_n hx hb gX12_hasOwn_2.2.2.2.2.2.2.2.2.1 rfl (lv_at1 hl) ?_
  refine lv_if_eq (tgt := 89) hx hb gX12_hasOwn_2.2.2.2.2.2.2.2.2.2 (by decide) (fun c9 => absurd c9 (by decide)) (fun _ => ?_)
  refine lv_iload_n hx hb gX12_hasOwn_3.1 rfl (lv_at1 hl) ?_
  refine lv_iconst (v := 2) hx hb gX12_hasOwn_3.2.1 (by decide) ?_
  refine lv_icmp_ne (tgt := 93) hx hb gX12_hasOwn_3.2.2.1 (by decide) (fun _ => ?_) (fun c9 => absurd c9 (by decide))
  refine lv_iconst (v := 0) hx hb gX12_hasOwn_3.2.2.2.2.2.1 (by decide) ?_
  refine toQ hQ0 ?_
  exact RP (v := 0) hC (rfl) (by decide +kernel) gX12_hasOwn_3.2.2.2.2.2.2.1
def K_m_hasOwn50 (l : Launch) (G : GG) : Prop := MP l G yX12_hasOwn cX12_hasOwn 2 (some .boolean) 1 [.int 5, .int 0] [] (fun r : Int32 => r = 1)
set_option maxHeartbeats 4000000 in
set_option maxRecDepth 100000 in
theorem m_hasOwn50 (l : Launch) (G : GG) : K_m_hasOwn50 l G := by
  refine MP.start (by decide +kernel) (Nat.le_of_ble_eq_true rfl) ?_
  intro p e s m below meth c ls hC hK hP hD hl
  refine absQ (fun Q0 hQ0 => ?_)
  have hl : lv_has ls 2 [(0, .int 5), (1, .int 0)] := hl
  refine Kan8 hC (fun hx hb hr hml hB hown hlocks hnm => ?_)
  refine lv_iload_n hx hb gX12_hasOwn_0.1 rfl (lv_at0 hl) ?_
  refine lv_tableIn (tgt := 80) hx hb gX12_hasOwn_0.2.1 (by decide) (by decide) rfl (by decide) ?_
  refine lv_iload_n hx hb gX12_hasOwn_2.2.2.2.2.2.2.2.2.1 rfl (lv_at1 hl) ?_
  refine lv_if_eq (tgt := 89) hx hb gX12_hasOwn_2.2.2.2.2.2.2.2.2.2 (by decide) (fun _ => ?_) (fun c9 => absurd (by decide) c9)
  refine lv_iconst (v := 1) hx hb gX12_hasOwn_3.2.2.2.1 (by decide) ?_
  refine lv_goto (tgt := 94) hx hb gX12_hasOwn_3.2.2.2.2.1 (by decide) ?_
  refine toQ hQ0 ?_
  exact RP (v := 1) hC (rfl) (by decide +kernel) gX12_hasOwn_3.2.2.2.2.2.2.1
def K_m_hasOwn51 (l : Launch) (G : GG) : Prop := MP l G yX12_hasOwn cX12_hasOwn 2 (some .boolean) 1 [.int 5, .int 1] [] (fun r : Int32 => r = 0)
set_option maxHeartbeats 4000000 in
set_option maxRecDepth 100000 in
theorem m_hasOwn51 (l : Launch) (G : GG) : K_m_hasOwn51 l G := by
  refine MP.start (by decide +kernel) (Nat.le_of_ble_eq_true rfl) ?_
  intro p e s m below meth c ls hC hK hP hD hl
  refine absQ (fun Q0 hQ0 => ?_)
  have hl : lv_has ls 2 [(0, .int 5), (1, .int 1)] := hl
  refine Kan8 hC (fun hx hb hr hml hB hown hlocks hnm => ?_)
  refine lv_iload_n hx hb gX12_hasOwn_0.1 rfl (lv_at0 hl) ?_
  refine lv_tableIn (tgt := 80) hx hb gX12_hasOwn_0.2.1 (by decide) (by decide) rfl (by decide) ?_
  refine lv_iload_n hx hb gX12_hasOwn_2.2.2.2.2.2.2.2.2.1 rfl (lv_at1 hl) ?_
  refine lv_if_eq (tgt := 89) hx hb gX12_hasOwn_2.2.2.2.2.2.2.2.2.2 (by decide) (fun c9 => absurd c9 (by decide)) (fun _ => ?_)
  refine lv_iload_n hx hb gX12_hasOwn_3.1 rfl (lv_at1 hl) ?_
  refine lv_iconst (v := 2) hx hb gX12_hasOwn_3.2.1 (by decide) ?_
  refine lv_icmp_ne (tgt := 93) hx hb gX12_hasOwn_3.2.2.1 (by decide) (fun _ => ?_) (fun c9 => absurd c9 (by decide))
  refine lv_iconst (v := 0) hx hb gX12_hasOwn_3.2.2.2.2.2.1 (by decide) ?_
  refine toQ hQ0 ?_
  exact RP (v := 0) hC (rfl) (by decide +kernel) gX12_hasOwn_3.2.2.2.2.2.2.1
def K_m_hasOwn52 (l : Launch) (G : GG) : Prop := MP l G yX12_hasOwn cX12_hasOwn 2 (some .boolean) 1 [.int 5, .int 2] [] (fun r : Int32 => r = 1)
set_option maxHeartbeats 4000000 in
set_option maxRecDepth 100000 in
theorem m_hasOwn52 (l : Launch) (G : GG) : K_m_hasOwn52 l G := by
  refine MP.start (by decide +kernel) (Nat.le_of_ble_eq_true rfl) ?_
  intro p e s m below meth c ls hC hK hP hD hl
  refine absQ (fun Q0 hQ0 => ?_)
  have hl : lv_has ls 2 [(0, .int 5), (1, .int 2)] := hl
  refine Kan8 hC (fun hx hb hr hml hB hown hlocks hnm => ?_)
  refine lv_iload_n hx hb gX12_hasOwn_0.1 rfl (lv_at0 hl) ?_
  refine lv_tableIn (tgt := 80) hx hb gX12_hasOwn_0.2.1 (by decide) (by decide) rfl (by decide) ?_
  refine lv_iload_n hx hb gX12_hasOwn_2.2.2.2.2.2.2.2.2.1 rfl (lv_at1 hl) ?_
  refine lv_if_eq (tgt := 89) hx hb gX12_hasOwn_2.2.2.2.2.2.2.2.2.2 (by decide) (fun c9 => absurd c9 (by decide)) (fun _ => ?_)
  refine lv_iload_n hx hb gX12_hasOwn_3.1 rfl (lv_at1 hl) ?_
  refine lv_iconst (v := 2) hx hb gX12_hasOwn_3.2.1 (by decide) ?_
  refine lv_icmp_ne (tgt := 93) hx hb gX12_hasOwn_3.2.2.1 (by decide) (fun c9 => absurd (by decide) c9) (fun _ => ?_)
  refine lv_iconst (v := 1) hx hb gX12_hasOwn_3.2.2.2.1 (by decide) ?_
  refine lv_goto (tgt := 94) hx hb gX12_hasOwn_3.2.2.2.2.1 (by decide) ?_
  refine toQ hQ0 ?_
  exact RP (v := 1) hC (rfl) (by decide +kernel) gX12_hasOwn_3.2.2.2.2.2.2.1
def K_m_hasOwn53 (l : Launch) (G : GG) : Prop := MP l G yX12_hasOwn cX12_hasOwn 2 (some .boolean) 1 [.int 5, .int 3] [] (fun r : Int32 => r = 0)
set_option maxHeartbeats 4000000 in
set_option maxRecDepth 100000 in
theorem m_hasOwn53 (l : Launch) (G : GG) : K_m_hasOwn53 l G := by
  refine MP.start (by decide +kernel) (Nat.le_of_ble_eq_true rfl) ?_
  intro p e s m below meth c ls hC hK hP hD hl
  refine absQ (fun Q0 hQ0 => ?_)
  have hl : lv_has ls 2 [(0, .int 5), (1, .int 3)] := hl
  refine Kan8 hC (fun hx hb hr hml hB hown hlocks hnm => ?_)
  refine lv_iload_n hx hb gX12_hasOwn_0.1 rfl (lv_at0 hl) ?_
  refine lv_tableIn (tgt := 80) hx hb gX12_hasOwn_0.2.1 (by decide) (by decide) rfl (by decide) ?_
  refine lv_iload_n hx hb gX12_hasOwn_2.2.2.2.2.2.2.2.2.1 rfl (lv_at1 hl) ?_
  refine lv_if_eq (tgt := 89) hx hb gX12_hasOwn_2.2.2.2.2.2.2.2.2.2 (by decide) (fun c9 => absurd c9 (by decide)) (fun _ => ?_)
  refine lv_iload_n hx hb gX12_hasOwn_3.1 rfl (lv_at1 hl) ?_
  refine lv_iconst (v := 2) hx hb gX12_hasOwn_3.2.1 (by decide) ?_
  refine lv_icmp_ne (tgt := 93) hx hb gX12_hasOwn_3.2.2.1 (by decide) (fun _ => ?_) (fun c9 => absurd c9 (by decide))
  refine lv_iconst (v := 0) hx hb gX12_hasOwn_3.2.2.2.2.2.1 (by decide) ?_
  refine toQ hQ0 ?_
  exact RP (v := 0) hC (rfl) (by decide +kernel) gX12_hasOwn_3.2.2.2.2.2.2.1
def K_m_hasOwn60 (l : Launch) (G : GG) : Prop := MP l G yX12_hasOwn cX12_hasOwn 2 (some .boolean) 1 [.int 6, .int 0] [] (fun r : Int32 => r = 0)
set_option maxHeartbeats 4000000 in
set_option maxRecDepth 100000 in
theorem m_hasOwn60 (l : Launch) (G : GG) : K_m_hasOwn60 l G := by
  refine MP.start (by decide +kernel) (Nat.le_of_ble_eq_true rfl) ?_
  intro p e s m below meth c ls hC hK hP hD hl
  refine absQ (fun Q0 hQ0 => ?_)
  have hl : lv_has ls 2 [(0, .int 6), (1, .int 0)] := hl
  refine Kan8 hC (fun hx hb hr hml hB hown hlocks hnm => ?_)
  refine lv_iload_n hx hb gX12_hasOwn_0.1 rfl (lv_at0 hl) ?_
  refine lv_tableOut (tgt := 95) hx hb gX12_hasOwn_0.2.1 (by decide) (by decide) ?_
  refine lv_iload_n hx hb gX12_hasOwn_3.2.2.2.2.2.2.2.1 rfl (lv_at1 hl) ?_
  refine lv_iconst (v := 3) hx hb gX12_hasOwn_3.2.2.2.2.2.2.2.2.1 (by decide) ?_
  refine lv_icmp_ne (tgt := 104) hx hb gX12_hasOwn_3.2.2.2.2.2.2.2.2.2 (by decide) (fun _ => ?_) (fun c9 => absurd c9 (by decide))
  refine lv_iconst (v := 0) hx hb gX12_hasOwn_4.2.2.1 (by decide) ?_
  refine toQ hQ0 ?_
  exact RP (v := 0) hC (rfl) (by decide +kernel) gX12_hasOwn_4.2.2.2
def K_m_hasOwn61 (l : Launch) (G : GG) : Prop := MP l G yX12_hasOwn cX12_hasOwn 2 (some .boolean) 1 [.int 6, .int 1] [] (fun r : Int32 => r = 0)
set_option maxHeartbeats 4000000 in
set_option maxRecDepth 100000 in
theorem m_hasOwn61 (l : Launch) (G : GG) : K_m_hasOwn61 l G := by
  refine MP.start (by decide +kernel) (Nat.le_of_ble_eq_true rfl) ?_
  intro p e s m below meth c ls hC hK hP hD hl
  refine absQ (fun Q0 hQ0 => ?_)
  have hl : lv_has ls 2 [(0, .int 6), (1, .int 1)] := hl
  refine Kan8 hC (fun hx hb hr hml hB hown hlocks hnm => ?_)
  refine lv_iload_n hx hb gX12_hasOwn_0.1 rfl (lv_at0 hl) ?_
  refine lv_tableOut (tgt := 95) hx hb gX12_hasOwn_0.2.1 (by decide) (by decide) ?_
  refine lv_iload_n hx hb gX12_hasOwn_3.2.2.2.2.2.2.2.1 rfl (lv_at1 hl) ?_
  refine lv_iconst (v := 3) hx hb gX12_hasOwn_3.2.2.2.2.2.2.2.2.1 (by decide) ?_
  refine lv_icmp_ne (tgt := 104) hx hb gX12_hasOwn_3.2.2.2.2.2.2.2.2.2 (by decide) (fun _ => ?_) (fun c9 => absurd c9 (by decide))
  refine lv_iconst (v := 0) hx hb gX12_hasOwn_4.2.2.1 (by decide) ?_
  refine toQ hQ0 ?_
  exact RP (v := 0) hC (rfl) (by decide +kernel) gX12_hasOwn_4.2.2.2
def K_m_hasOwn62 (l : Launch) (G : GG) : Prop := MP l G yX12_hasOwn cX12_hasOwn 2 (some .boolean) 1 [.int 6, .int 2] [] (fun r : Int32 => r = 0)
set_option maxHeartbeats 4000000 in
set_option maxRecDepth 100000 in
theorem m_hasOwn62 (l : Launch) (G : GG) : K_m_hasOwn62 l G := by
  refine MP.start (by decide +kernel) (Nat.le_of_ble_eq_true rfl) ?_
  intro p e s m below meth c ls hC hK hP hD hl
  refine absQ (fun Q0 hQ0 => ?_)
  have hl : lv_has ls 2 [(0, .int 6), (1, .int 2)] := hl
  refine Kan8 hC (fun hx hb hr hml hB hown hlocks hnm => ?_)
  refine lv_iload_n hx hb gX12_hasOwn_0.1 rfl (lv_at0 hl) ?_
  refine lv_tableOut (tgt := 95) hx hb gX12_hasOwn_0.2.1 (by decide) (by decide) ?_
  refine lv_iload_n hx hb gX12_hasOwn_3.2.2.2.2.2.2.2.1 rfl (lv_at1 hl) ?_
  refine lv_iconst (v := 3) hx hb gX12_hasOwn_3.2.2.2.2.2.2.2.2.1 (by decide) ?_
  refine lv_icmp_ne (tgt := 104) hx hb gX12_hasOwn_3.2.2.2.2.2.2.2.2.2 (by decide) (fun _ => ?_) (fun c9 => absurd c9 (by decide))
  refine lv_iconst (v := 0) hx hb gX12_hasOwn_4.2.2.1 (by decide) ?_
  refine toQ hQ0 ?_
  exact RP (v := 0) hC (rfl) (by decide +kernel) gX12_hasOwn_4.2.2.2
def K_m_hasOwn63 (l : Launch) (G : GG) : Prop := MP l G yX12_hasOwn cX12_hasOwn 2 (some .boolean) 1 [.int 6, .int 3] [] (fun r : Int32 => r = 1)
set_option maxHeartbeats 4000000 in
set_option maxRecDepth 100000 in
theorem m_hasOwn63 (l : Launch) (G : GG) : K_m_hasOwn63 l G := by
  refine MP.start (by decide +kernel) (Nat.le_of_ble_eq_true rfl) ?_
  intro p e s m below meth c ls hC hK hP hD hl
  refine absQ (fun Q0 hQ0 => ?_)
  have hl : lv_has ls 2 [(0, .int 6), (1, .int 3)] := hl
  refine Kan8 hC (fun hx hb hr hml hB hown hlocks hnm => ?_)
  refine lv_iload_n hx hb gX12_hasOwn_0.1 rfl (lv_at0 hl) ?_
  refine lv_tableOut (tgt := 95) hx hb gX12_hasOwn_0.2.1 (by decide) (by decide) ?_
  refine lv_iload_n hx hb gX12_hasOwn_3.2.2.2.2.2.2.2.1 rfl (lv_at1 hl) ?_
  refine lv_iconst (v := 3) hx hb gX12_hasOwn_3.2.2.2.2.2.2.2.2.1 (by decide) ?_
  refine lv_icmp_ne (tgt := 104) hx hb gX12_hasOwn_3.2.2.2.2.2.2.2.2.2 (by decide) (fun c9 => absurd (by decide) c9) (fun _ => ?_)
  refine lv_iconst (v := 1) hx hb gX12_hasOwn_4.1 (by decide) ?_
  refine lv_goto (tgt := 105) hx hb gX12_hasOwn_4.2.1 (by decide) ?_
  refine toQ hQ0 ?_
  exact RP (v := 1) hC (rfl) (by decide +kernel) gX12_hasOwn_4.2.2.2
def K_m_kindOnX (l : Launch) (G : GG) (kq : Nat) (k8 : Nat) (k9 : Nat) (h0 : Nat) (jt : Nat) (nw : Nat) (nk : Nat) (mhasKept : Int32) (nt : Nat) (mtaped : Int32) (nr : Nat) (mrowMany : Int32) (mroundOf : Int32) (mroundFrom : Int32) (mouts : Int32) (nm : Nat) (mfromHour : Int32) (mtoHour : Int32) (ns : Nat) (mfrom : Int32) (mto : Int32) (msort : Int32) (misFault : Int32) (mdeep : Int32) (mcoded : Int32) (mlines : Int32) (nl : Nat) (nc : Nat) (nF : Nat) (np : Nat) (ntr : Nat) (nb : Nat) (mbestCost : Int32) (nso : Nat) (nsi : Nat) (nit : Nat) (nsh : Nat) (nsf : Nat) (nss : Nat) (nrc : Nat) (mtraced : Int32) (mdealer : Int32) (mnumber : Int32) (mwhose : Int32) (msize : Int32) (misParted : Int32) (fnw : Nat → Int32) (fnsh : Nat → Int32) (fnsf : Nat → Int32) : Prop := MP l G yX12_kindOn cX12_kindOn 4 (some .int) 3 [.ref h0, .int (nI jt)] [(h0, oX12 nw nk mhasKept nt mtaped nr mrowMany mroundOf mroundFrom mouts nm mfromHour mtoHour ns mfrom mto msort misFault mdeep mcoded mlines nl nc nF np ntr nb mbestCost nso nsi nit nsh nsf nss nrc mtraced mdealer mnumber mwhose msize misParted), (nw, iA G 1662 fnw), (nsh, iA G 4 fnsh), (nsf, iA G 4 fnsf)] (fun r : Int32 => (r = (-1) ∧ KOM (fnsh jt) (fnsf jt) kq k8 k9 (shf fnw 32) (shf fnw 1424) = (-1)) ∨ (r = 1 ∧ KOM (fnsh jt) (fnsf jt) kq k8 k9 (shf fnw 32) (shf fnw 1424) = 1) ∨ (r = 2 ∧ KOM (fnsh jt) (fnsf jt) kq k8 k9 (shf fnw 32) (shf fnw 1424) = 2) ∨ (r = 3 ∧ KOM (fnsh jt) (fnsf jt) kq k8 k9 (shf fnw 32) (shf fnw 1424) = 3) ∨ (r = 4 ∧ KOM (fnsh jt) (fnsf jt) kq k8 k9 (shf fnw 32) (shf fnw 1424) = 4) ∨ (r = 5 ∧ KOM (fnsh jt) (fnsf jt) kq k8 k9 (shf fnw 32) (shf fnw 1424) = 5) ∨ (r = 6 ∧ KOM (fnsh jt) (fnsf jt) kq k8 k9 (shf fnw 32) (shf fnw 1424) = 6))
set_option maxHeartbeats 4000000 in
set_option maxRecDepth 100000 in
theorem m_kindOnX (l : Launch) (G : GG) (kq : Nat) (k8 : Nat) (k9 : Nat) (h0 : Nat) (jt : Nat) (nw : Nat) (nk : Nat) (mhasKept : Int32) (nt : Nat) (mtaped : Int32) (nr : Nat) (mrowMany : Int32) (mroundOf : Int32) (mroundFrom : Int32) (mouts : Int32) (nm : Nat) (mfromHour : Int32) (mtoHour : Int32) (ns : Nat) (mfrom : Int32) (mto : Int32) (msort : Int32) (misFault : Int32) (mdeep : Int32) (mcoded : Int32) (mlines : Int32) (nl : Nat) (nc : Nat) (nF : Nat) (np : Nat) (ntr : Nat) (nb : Nat) (mbestCost : Int32) (nso : Nat) (nsi : Nat) (nit : Nat) (nsh : Nat) (nsf : Nat) (nss : Nat) (nrc : Nat) (mtraced : Int32) (mdealer : Int32) (mnumber : Int32) (mwhose : Int32) (msize : Int32) (misParted : Int32) (fnw : Nat → Int32) (fnsh : Nat → Int32) (fnsf : Nat → Int32) (hjt : jt < 4) (ekq : fnw 5 = nI kq) (hkq : kq ≤ 12) (ek8 : fnw 8 = nI k8) (hk8 : k8 ≤ 16) (ek9 : fnw 9 = nI k9) (hk9 : k9 ≤ 12) (hN : NI fnw) : K_m_kindOnX l G kq k8 k9 h0 jt nw nk mhasKept nt mtaped nr mrowMany mroundOf mroundFrom mouts nm mfromHour mtoHour ns mfrom mto msort misFault mdeep mcoded mlines nl nc nF np ntr nb mbestCost nso nsi nit nsh nsf nss nrc mtraced mdealer mnumber mwhose msize misParted fnw fnsh fnsf := by
  refine MP.start (by decide +kernel) (Nat.le_of_ble_eq_true rfl) ?_
  intro p e s m below meth c ls hC hK hP hD hl
  refine absQ (fun Q0 hQ0 => ?_)
  have hl : lv_has ls 4 [(0, .ref h0), (1, .int (nI jt))] := hl
  refine Kan8 hC (fun hx hb hr hml hB hown hlocks hnm => ?_)
  refine lv_aload_n hx hb gX12_kindOn_0.1 rfl (lv_at0 hl) ?_
  refine gf_X12_75 hC rfl hK hP 0 rfl rfl gX12_kindOn_0.2.1 ?_
  refine lv_iload_n hx hb gX12_kindOn_0.2.2.1 rfl (lv_at1 hl) ?_
  refine aldN hC hK hP 3 rfl (k := jt) (by omega) (Nat.le_of_ble_eq_true rfl) (v := fnsf jt) rfl gX12_kindOn_0.2.2.2.1 ?_
  refine lv_istore_n (lv' := [(2, .int (fnsf jt)), (0, .ref h0), (1, .int (nI jt))]) hx hb gX12_kindOn_0.2.2.2.2.1 rfl hl (by decide) rfl (fun ls hl => ?_)
  refine lv_aload_n hx hb gX12_kindOn_0.2.2.2.2.2.1 rfl (lv_at1 hl) ?_
  refine gf_X12_72 hC rfl hK hP 0 rfl rfl gX12_kindOn_0.2.2.2.2.2.2.1 ?_
  refine lv_iload_n hx hb gX12_kindOn_0.2.2.2.2.2.2.2.1 rfl (lv_at2 hl) ?_
  refine aldN hC hK hP 2 rfl (k := jt) (by omega) (Nat.le_of_ble_eq_true rfl) (v := fnsh jt) rfl gX12_kindOn_0.2.2.2.2.2.2.2.2.1 ?_
  by_cases c_13_5895 : fnsh jt = 1
  · refine lv_tableIn (tgt := 40) hx hb gX12_kindOn_0.2.2.2.2.2.2.2.2.2 (by rw [c_13_5895]; decide) (by rw [c_13_5895]; decide) (by rw [c_13_5895]; rfl) (by decide) ?_
    refine lv_aload_n hx hb gX12_kindOn_1.1 rfl (lv_at1 hl) ?_
    refine lv_iload_n hx hb gX12_kindOn_1.2.1 rfl (lv_at0 hl) ?_
    refine lv_iconst (v := 5) hx hb gX12_kindOn_1.2.2.1 (by decide) ?_
    refine pV hC hK hl hP hD (m_is l G kq h0 (fnsf jt) 5 nw nk mhasKept nt mtaped nr mrowMany mroundOf mroundFrom mouts nm mfromHour mtoHour ns mfrom mto msort misFault mdeep mcoded mlines nl nc nF np ntr nb mbestCost nso nsi nit nsh nsf nss nrc mtraced mdealer mnumber mwhose msize misParted fnw (by omega) (ekq) (by omega)) si_X12_120 [0, 1] sm_0_1 fm_0_1 nd_0_1 rfl rfl rfl rfl rfl (Nat.le_of_ble_eq_true rfl) rm_3_2_3 ⟨by first | exact Nat.le_of_ble_eq_true rfl | exact Nat.zero_le _, by first | exact Nat.le_of_ble_eq_true rfl | exact Nat.zero_le _⟩ gX12_kindOn_1.2.2.2.1 (Kors (Keqa fun a5897 => ?_) (Keqa fun a5897 => ?_))
    · refine lv_if_eq (tgt := 73) hx hb gX12_kindOn_1.2.2.2.2.1 (by decide) (fun c9 => absurd c9 (by decide)) (fun _ => ?_)
      refine lv_aload_n hx hb gX12_kindOn_1.2.2.2.2.2.1 rfl (lv_at1 hl) ?_
      refine lv_iload_n hx hb gX12_kindOn_1.2.2.2.2.2.2.1 rfl (lv_at0 hl) ?_
      obtain ⟨jn5898, hjn5898, ekjn5898⟩ := Hs_nat (by omega) a5897
      refine eqi (x1 := nI jn5898) ekjn5898 ?_
      refine lv_iconst (v := 1) hx hb gX12_kindOn_1.2.2.2.2.2.2.2.1 (by decide) ?_
      refine pV hC hK hl hP hD (m_paper l G h0 jn5898 1 nw nk mhasKept nt mtaped nr mrowMany mroundOf mroundFrom mouts nm mfromHour mtoHour ns mfrom mto msort misFault mdeep mcoded mlines nl nc nF np ntr nb mbestCost nso nsi nit nsh nsf nss nrc mtraced mdealer mnumber mwhose msize misParted fnw (by omega) (by omega)) si_X12_88 [0, 1] sm_0_1 fm_0_1 nd_0_1 rfl rfl rfl rfl rfl (Nat.le_of_ble_eq_true rfl) rm_3_1_3 ⟨by first | exact Nat.le_of_ble_eq_true rfl | exact Nat.zero_le _, by first | exact Nat.le_of_ble_eq_true rfl | exact Nat.zero_le _⟩ gX12_kindOn_1.2.2.2.2.2.2.2.2.1 (Keqr ?_)
      refine lv_iconst (v := 1) hx hb gX12_kindOn_1.2.2.2.2.2.2.2.2.2 (by decide) ?_
      refine lv_aload_n hx hb gX12_kindOn_2.1 rfl (lv_at1 hl) ?_
      refine lv_iload_n hx hb gX12_kindOn_2.2.1 rfl (lv_at0 hl) ?_
      refine eqi (x1 := nI jn5898) ekjn5898 ?_
      refine lv_iconst (v := 0) hx hb gX12_kindOn_2.2.2.1 (by decide) ?_
      refine pV hC hK hl hP hD (m_paper l G h0 jn5898 0 nw nk mhasKept nt mtaped nr mrowMany mroundOf mroundFrom mouts nm mfromHour mtoHour ns mfrom mto msort misFault mdeep mcoded mlines nl nc nF np ntr nb mbestCost nso nsi nit nsh nsf nss nrc mtraced mdealer mnumber mwhose msize misParted fnw (by omega) (by omega)) si_X12_88 [0, 1] sm_0_1 fm_0_1 nd_0_1 rfl rfl rfl rfl rfl (Nat.le_of_ble_eq_true rfl) rm_3_1_3 ⟨by first | exact Nat.le_of_ble_eq_true rfl | exact Nat.zero_le _, by first | exact Nat.le_of_ble_eq_true rfl | exact Nat.zero_le _⟩ gX12_kindOn_2.2.2.2.1 (Keqr ?_)
      refine lv_ishl hx hb gX12_kindOn_2.2.2.2.2.1 ?_
      refine lv_iconst (v := (-1)) hx hb gX12_kindOn_2.2.2.2.2.2.1 (by decide) ?_
      refine lv_ixor hx hb gX12_kindOn_2.2.2.2.2.2.2.1 ?_
      refine lv_iand hx hb gX12_kindOn_2.2.2.2.2.2.2.2.1 ?_
      refine lv_if_eq (tgt := 73) hx hb gX12_kindOn_2.2.2.2.2.2.2.2.2.1 (by decide) (fun c_66_5903 => ?_) (fun c_66_5903 => ?_)
      · refine lv_iconst (v := 0) hx hb gX12_kindOn_3.2.1 (by decide) ?_
        refine lv_istore_n (lv' := [(3, .int 0), (2, .int (fnsf jt)), (0, .ref h0), (1, .int (nI jt))]) hx hb gX12_kindOn_3.2.2.1 rfl hl (by decide) rfl (fun ls hl => ?_)
        refine lv_aload_n hx hb gX12_kindOn_3.2.2.2.1 rfl (lv_at2 hl) ?_
        refine lv_iload_n hx hb gX12_kindOn_3.2.2.2.2.1 rfl (lv_at1 hl) ?_
        refine lv_iconst (v := 5) hx hb gX12_kindOn_3.2.2.2.2.2.1 (by decide) ?_
        refine pV hC hK hl hP hD (m_is l G kq h0 (fnsf jt) 5 nw nk mhasKept nt mtaped nr mrowMany mroundOf mroundFrom mouts nm mfromHour mtoHour ns mfrom mto msort misFault mdeep mcoded mlines nl nc nF np ntr nb mbestCost nso nsi nit nsh nsf nss nrc mtraced mdealer mnumber mwhose msize misParted fnw (by omega) (ekq) (by omega)) si_X12_120 [0, 1] sm_0_1 fm_0_1 nd_0_1 rfl rfl rfl rfl rfl (Nat.le_of_ble_eq_true rfl) rm_3_2_3 ⟨by first | exact Nat.le_of_ble_eq_true rfl | exact Nat.zero_le _, by first | exact Nat.le_of_ble_eq_true rfl | exact Nat.zero_le _⟩ gX12_kindOn_3.2.2.2.2.2.2.1 (Kors (Keqa fun a5905 => ?_) (Keqa fun a5905 => ?_))
        · refine lv_if_ne (tgt := 88) hx hb gX12_kindOn_3.2.2.2.2.2.2.2.1 (by decide) (fun _ => ?_) (fun c9 => absurd c9 (by decide))
          refine lv_iload_n hx hb gX12_kindOn_4.1 rfl (lv_at0 hl) ?_
          refine lv_if_ne (tgt := 96) hx hb gX12_kindOn_4.2.1 (by decide) (fun c9 => absurd (by decide) c9) (fun _ => ?_)
          refine lv_iconst (v := 2) hx hb gX12_kindOn_4.2.2.1 (by decide) ?_
          refine lv_goto (tgt := 110) hx hb gX12_kindOn_4.2.2.2.1 (by decide) ?_
          refine toQ hQ0 ?_
          exact RP (v := 2) hC (Or.inr (Or.inr (Or.inl (⟨rfl, (by unfold KOM; simp only [ifc_t hjt, ifc_t ekq, ifc_t hkq, ifc_t ek8, ifc_t hk8, ifc_t ek9, ifc_t hk9, ifc_t hN, ifc_t c_13_5895, ifc_t a5905, ifc_t c_66_5903, ifc_f (q := fnsh jt = 2) (by rw [c_13_5895]; decide), ifc_f (q := fnsh jt = 3) (by rw [c_13_5895]; decide)]; unfold PKn; rw [show shf fnw 32 ((fnsf jt).toNatClampNeg * 6 + 1) = fnw (32 + 6 * jn5898 + 1) from congrArg fnw (by rw [ekjn5898, nI_clamp (n := jn5898) (by omega)]; omega), show shf fnw 32 ((fnsf jt).toNatClampNeg * 6 + 0) = fnw (32 + 6 * jn5898 + 0) from congrArg fnw (by rw [ekjn5898, nI_clamp (n := jn5898) (by omega)]; omega), ifn_t c_66_5903]; first | done | rfl)⟩)))) rfl gX12_kindOn_5.2.2.1
        · exact absurd a5897 a5905
      · refine lv_iconst (v := 1) hx hb gX12_kindOn_2.2.2.2.2.2.2.2.2.2 (by decide) ?_
        refine lv_goto (tgt := 74) hx hb gX12_kindOn_3.1 (by decide) ?_
        refine lv_istore_n (lv' := [(3, .int 1), (2, .int (fnsf jt)), (0, .ref h0), (1, .int (nI jt))]) hx hb gX12_kindOn_3.2.2.1 rfl hl (by decide) rfl (fun ls hl => ?_)
        refine lv_aload_n hx hb gX12_kindOn_3.2.2.2.1 rfl (lv_at2 hl) ?_
        refine lv_iload_n hx hb gX12_kindOn_3.2.2.2.2.1 rfl (lv_at1 hl) ?_
        refine lv_iconst (v := 5) hx hb gX12_kindOn_3.2.2.2.2.2.1 (by decide) ?_
        refine pV hC hK hl hP hD (m_is l G kq h0 (fnsf jt) 5 nw nk mhasKept nt mtaped nr mrowMany mroundOf mroundFrom mouts nm mfromHour mtoHour ns mfrom mto msort misFault mdeep mcoded mlines nl nc nF np ntr nb mbestCost nso nsi nit nsh nsf nss nrc mtraced mdealer mnumber mwhose msize misParted fnw (by omega) (ekq) (by omega)) si_X12_120 [0, 1] sm_0_1 fm_0_1 nd_0_1 rfl rfl rfl rfl rfl (Nat.le_of_ble_eq_true rfl) rm_3_2_3 ⟨by first | exact Nat.le_of_ble_eq_true rfl | exact Nat.zero_le _, by first | exact Nat.le_of_ble_eq_true rfl | exact Nat.zero_le _⟩ gX12_kindOn_3.2.2.2.2.2.2.1 (Kors (Keqa fun a5907 => ?_) (Keqa fun a5907 => ?_))
        · refine lv_if_ne (tgt := 88) hx hb gX12_kindOn_3.2.2.2.2.2.2.2.1 (by decide) (fun _ => ?_) (fun c9 => absurd c9 (by decide))
          refine lv_iload_n hx hb gX12_kindOn_4.1 rfl (lv_at0 hl) ?_
          refine lv_if_ne (tgt := 96) hx hb gX12_kindOn_4.2.1 (by decide) (fun _ => ?_) (fun c9 => absurd c9 (by decide))
          refine lv_aload_n hx hb gX12_kindOn_4.2.2.2.2.1 rfl (lv_at2 hl) ?_
          refine lv_iload_n hx hb gX12_kindOn_4.2.2.2.2.2.1 rfl (lv_at1 hl) ?_
          refine eqi (x1 := nI jn5898) ekjn5898 ?_
          refine lv_iconst (v := 3) hx hb gX12_kindOn_4.2.2.2.2.2.2.1 (by decide) ?_
          refine pV hC hK hl hP hD (m_paper l G h0 jn5898 3 nw nk mhasKept nt mtaped nr mrowMany mroundOf mroundFrom mouts nm mfromHour mtoHour ns mfrom mto msort misFault mdeep mcoded mlines nl nc nF np ntr nb mbestCost nso nsi nit nsh nsf nss nrc mtraced mdealer mnumber mwhose msize misParted fnw (by omega) (by omega)) si_X12_88 [0, 1] sm_0_1 fm_0_1 nd_0_1 rfl rfl rfl rfl rfl (Nat.le_of_ble_eq_true rfl) rm_3_1_3 ⟨by first | exact Nat.le_of_ble_eq_true rfl | exact Nat.zero_le _, by first | exact Nat.le_of_ble_eq_true rfl | exact Nat.zero_le _⟩ gX12_kindOn_4.2.2.2.2.2.2.2.1 (Keqr ?_)
          refine lv_if_le (tgt := 109) hx hb gX12_kindOn_4.2.2.2.2.2.2.2.2.1 (by decide) (fun c_102_5910 => ?_) (fun c_102_5910 => ?_)
          · refine lv_iconst (v := 1) hx hb gX12_kindOn_5.2.1 (by decide) ?_
            refine toQ hQ0 ?_
            exact RP (v := 1) hC (Or.inr (Or.inl (⟨rfl, (by unfold KOM; simp only [ifc_t hjt, ifc_t ekq, ifc_t hkq, ifc_t ek8, ifc_t hk8, ifc_t ek9, ifc_t hk9, ifc_t hN, ifc_t c_13_5895, ifc_t a5907, ifc_f c_66_5903, ifc_t c_102_5910, ifc_f (q := fnsh jt = 2) (by rw [c_13_5895]; decide), ifc_f (q := fnsh jt = 3) (by rw [c_13_5895]; decide)]; unfold PKn; rw [show shf fnw 32 ((fnsf jt).toNatClampNeg * 6 + 1) = fnw (32 + 6 * jn5898 + 1) from congrArg fnw (by rw [ekjn5898, nI_clamp (n := jn5898) (by omega)]; omega), show shf fnw 32 ((fnsf jt).toNatClampNeg * 6 + 0) = fnw (32 + 6 * jn5898 + 0) from congrArg fnw (by rw [ekjn5898, nI_clamp (n := jn5898) (by omega)]; omega), show shf fnw 32 ((fnsf jt).toNatClampNeg * 6 + 3) = fnw (32 + 6 * jn5898 + 3) from congrArg fnw (by rw [ekjn5898, nI_clamp (n := jn5898) (by omega)]; omega), ifn_f c_66_5903, ifn_f (Int32.not_lt.mpr c_102_5910)]; first | done | rfl)⟩))) rfl gX12_kindOn_5.2.2.1
          · refine lv_iconst (v := 3) hx hb gX12_kindOn_4.2.2.2.2.2.2.2.2.2 (by decide) ?_
            refine lv_goto (tgt := 110) hx hb gX12_kindOn_5.1 (by decide) ?_
            refine toQ hQ0 ?_
            exact RP (v := 3) hC (Or.inr (Or.inr (Or.inr (Or.inl (⟨rfl, (by unfold KOM; simp only [ifc_t hjt, ifc_t ekq, ifc_t hkq, ifc_t ek8, ifc_t hk8, ifc_t ek9, ifc_t hk9, ifc_t hN, ifc_t c_13_5895, ifc_t a5907, ifc_f c_66_5903, ifc_f c_102_5910, ifc_f (q := fnsh jt = 2) (by rw [c_13_5895]; decide), ifc_f (q := fnsh jt = 3) (by rw [c_13_5895]; decide)]; unfold PKn; rw [show shf fnw 32 ((fnsf jt).toNatClampNeg * 6 + 1) = fnw (32 + 6 * jn5898 + 1) from congrArg fnw (by rw [ekjn5898, nI_clamp (n := jn5898) (by omega)]; omega), show shf fnw 32 ((fnsf jt).toNatClampNeg * 6 + 0) = fnw (32 + 6 * jn5898 + 0) from congrArg fnw (by rw [ekjn5898, nI_clamp (n := jn5898) (by omega)]; omega), show shf fnw 32 ((fnsf jt).toNatClampNeg * 6 + 3) = fnw (32 + 6 * jn5898 + 3) from congrArg fnw (by rw [ekjn5898, nI_clamp (n := jn5898) (by omega)]; omega), ifn_f c_66_5903, ifn_t (Int32.not_le.mp c_102_5910)]; first | done | rfl)⟩))))) rfl gX12_kindOn_5.2.2.1
        · exact absurd a5897 a5907
    · refine lv_if_eq (tgt := 73) hx hb gX12_kindOn_1.2.2.2.2.1 (by decide) (fun _ => ?_) (fun c9 => absurd (by decide) c9)
      refine lv_iconst (v := 0) hx hb gX12_kindOn_3.2.1 (by decide) ?_
      refine lv_istore_n (lv' := [(3, .int 0), (2, .int (fnsf jt)), (0, .ref h0), (1, .int (nI jt))]) hx hb gX12_kindOn_3.2.2.1 rfl hl (by decide) rfl (fun ls hl => ?_)
      refine lv_aload_n hx hb gX12_kindOn_3.2.2.2.1 rfl (lv_at2 hl) ?_
      refine lv_iload_n hx hb gX12_kindOn_3.2.2.2.2.1 rfl (lv_at1 hl) ?_
      refine lv_iconst (v := 5) hx hb gX12_kindOn_3.2.2.2.2.2.1 (by decide) ?_
      refine pV hC hK hl hP hD (m_is l G kq h0 (fnsf jt) 5 nw nk mhasKept nt mtaped nr mrowMany mroundOf mroundFrom mouts nm mfromHour mtoHour ns mfrom mto msort misFault mdeep mcoded mlines nl nc nF np ntr nb mbestCost nso nsi nit nsh nsf nss nrc mtraced mdealer mnumber mwhose msize misParted fnw (by omega) (ekq) (by omega)) si_X12_120 [0, 1] sm_0_1 fm_0_1 nd_0_1 rfl rfl rfl rfl rfl (Nat.le_of_ble_eq_true rfl) rm_3_2_3 ⟨by first | exact Nat.le_of_ble_eq_true rfl | exact Nat.zero_le _, by first | exact Nat.le_of_ble_eq_true rfl | exact Nat.zero_le _⟩ gX12_kindOn_3.2.2.2.2.2.2.1 (Kors (Keqa fun a5912 => ?_) (Keqa fun a5912 => ?_))
      · exact absurd a5912 a5897
      · refine lv_if_ne (tgt := 88) hx hb gX12_kindOn_3.2.2.2.2.2.2.2.1 (by decide) (fun c9 => absurd (by decide) c9) (fun _ => ?_)
        refine lv_iconst (v := (-1)) hx hb gX12_kindOn_3.2.2.2.2.2.2.2.2.1 (by decide) ?_
        refine lv_goto (tgt := 110) hx hb gX12_kindOn_3.2.2.2.2.2.2.2.2.2 (by decide) ?_
        refine toQ hQ0 ?_
        exact RP (v := (-1)) hC (Or.inl (⟨rfl, (by unfold KOM; first | (simp only [ifc_t hjt, ifc_t ekq, ifc_t hkq, ifc_t ek8, ifc_t hk8, ifc_t ek9, ifc_t hk9, ifc_t hN, ifc_t c_13_5895, ifc_f a5912, ifc_f (q := fnsh jt = 2) (by rw [c_13_5895]; decide), ifc_f (q := fnsh jt = 3) (by rw [c_13_5895]; decide)]; done) | (simp only [ifc_t hjt, ifc_t ekq, ifc_t hkq, ifc_t ek8, ifc_t hk8, ifc_t ek9, ifc_t hk9, ifc_t hN, ifc_t c_13_5895, ifc_f a5912, ifc_f (q := fnsh jt = 2) (by rw [c_13_5895]; decide), ifc_f (q := fnsh jt = 3) (by rw [c_13_5895]; decide)]; rfl))⟩)) rfl gX12_kindOn_5.2.2.1
  by_cases c_13_5913 : fnsh jt = 2
  · refine lv_tableIn (tgt := 111) hx hb gX12_kindOn_0.2.2.2.2.2.2.2.2.2 (by rw [c_13_5913]; decide) (by rw [c_13_5913]; decide) (by rw [c_13_5913]; rfl) (by decide) ?_
    refine lv_aload_n hx hb gX12_kindOn_5.2.2.2.1 rfl (lv_at1 hl) ?_
    refine lv_iload_n hx hb gX12_kindOn_5.2.2.2.2.1 rfl (lv_at0 hl) ?_
    refine lv_bipush (v := 8) hx hb gX12_kindOn_5.2.2.2.2.2.1 (by decide) ?_
    refine pV hC hK hl hP hD (m_is l G k8 h0 (fnsf jt) 8 nw nk mhasKept nt mtaped nr mrowMany mroundOf mroundFrom mouts nm mfromHour mtoHour ns mfrom mto msort misFault mdeep mcoded mlines nl nc nF np ntr nb mbestCost nso nsi nit nsh nsf nss nrc mtraced mdealer mnumber mwhose msize misParted fnw (by omega) (ek8) (by omega)) si_X12_120 [0, 1] sm_0_1 fm_0_1 nd_0_1 rfl rfl rfl rfl rfl (Nat.le_of_ble_eq_true rfl) rm_3_2_3 ⟨by first | exact Nat.le_of_ble_eq_true rfl | exact Nat.zero_le _, by first | exact Nat.le_of_ble_eq_true rfl | exact Nat.zero_le _⟩ gX12_kindOn_5.2.2.2.2.2.2.1 (Kors (Keqa fun a5915 => ?_) (Keqa fun a5915 => ?_))
    · refine lv_if_ne (tgt := 125) hx hb gX12_kindOn_5.2.2.2.2.2.2.2.1 (by decide) (fun _ => ?_) (fun c9 => absurd c9 (by decide))
      refine lv_aload_n hx hb gX12_kindOn_6.1 rfl (lv_at1 hl) ?_
      refine lv_iload_n hx hb gX12_kindOn_6.2.1 rfl (lv_at0 hl) ?_
      obtain ⟨jn5916, hjn5916, ekjn5916⟩ := Hs_nat (by omega) a5915
      refine eqi (x1 := nI jn5916) ekjn5916 ?_
      refine lv_bipush (v := 6) hx hb gX12_kindOn_6.2.2.1 (by decide) ?_
      refine pV hC hK hl hP hD (m_saying l G h0 jn5916 6 nw nk mhasKept nt mtaped nr mrowMany mroundOf mroundFrom mouts nm mfromHour mtoHour ns mfrom mto msort misFault mdeep mcoded mlines nl nc nF np ntr nb mbestCost nso nsi nit nsh nsf nss nrc mtraced mdealer mnumber mwhose msize misParted fnw (by omega) (by omega)) si_X12_114 [0, 1] sm_0_1 fm_0_1 nd_0_1 rfl rfl rfl rfl rfl (Nat.le_of_ble_eq_true rfl) rm_3_1_3 ⟨by first | exact Nat.le_of_ble_eq_true rfl | exact Nat.zero_le _, by first | exact Nat.le_of_ble_eq_true rfl | exact Nat.zero_le _⟩ gX12_kindOn_6.2.2.2.1 (Keqr ?_)
      refine lv_if_ge (tgt := 139) hx hb gX12_kindOn_6.2.2.2.2.1 (by decide) (fun c_132_5919 => ?_) (fun c_132_5919 => ?_)
      · refine lv_iconst (v := 4) hx hb gX12_kindOn_6.2.2.2.2.2.2.2.1 (by decide) ?_
        refine toQ hQ0 ?_
        exact RP (v := 4) hC (Or.inr (Or.inr (Or.inr (Or.inr (Or.inl (⟨rfl, (by unfold KOM; simp only [ifc_t hjt, ifc_t ekq, ifc_t hkq, ifc_t ek8, ifc_t hk8, ifc_t ek9, ifc_t hk9, ifc_t hN, ifc_f c_13_5895, ifc_t c_13_5913, ifc_t a5915, ifc_t c_132_5919, ifc_f (q := fnsh jt = 1) (by rw [c_13_5913]; decide), ifc_f (q := fnsh jt = 3) (by rw [c_13_5913]; decide)]; unfold SKn; rw [show shf fnw 1424 ((fnsf jt).toNatClampNeg * 8 + 6) = fnw (1424 + 8 * jn5916 + 6) from congrArg fnw (by rw [ekjn5916, nI_clamp (n := jn5916) (by omega)]; omega), ifn_f (Int32.not_lt.mpr c_132_5919)]; first | done | rfl)⟩)))))) rfl gX12_kindOn_6.2.2.2.2.2.2.2.2.1
      · refine lv_iconst (v := 5) hx hb gX12_kindOn_6.2.2.2.2.2.1 (by decide) ?_
        refine lv_goto (tgt := 140) hx hb gX12_kindOn_6.2.2.2.2.2.2.1 (by decide) ?_
        refine toQ hQ0 ?_
        exact RP (v := 5) hC (Or.inr (Or.inr (Or.inr (Or.inr (Or.inr (Or.inl (⟨rfl, (by unfold KOM; simp only [ifc_t hjt, ifc_t ekq, ifc_t hkq, ifc_t ek8, ifc_t hk8, ifc_t ek9, ifc_t hk9, ifc_t hN, ifc_f c_13_5895, ifc_t c_13_5913, ifc_t a5915, ifc_f c_132_5919, ifc_f (q := fnsh jt = 1) (by rw [c_13_5913]; decide), ifc_f (q := fnsh jt = 3) (by rw [c_13_5913]; decide)]; unfold SKn; rw [show shf fnw 1424 ((fnsf jt).toNatClampNeg * 8 + 6) = fnw (1424 + 8 * jn5916 + 6) from congrArg fnw (by rw [ekjn5916, nI_clamp (n := jn5916) (by omega)]; omega), ifn_t (Int32.not_le.mp c_132_5919)]; first | done | rfl)⟩))))))) rfl gX12_kindOn_6.2.2.2.2.2.2.2.2.1
    · refine lv_if_ne (tgt := 125) hx hb gX12_kindOn_5.2.2.2.2.2.2.2.1 (by decide) (fun c9 => absurd (by decide) c9) (fun _ => ?_)
      refine lv_iconst (v := (-1)) hx hb gX12_kindOn_5.2.2.2.2.2.2.2.2.1 (by decide) ?_
      refine lv_goto (tgt := 140) hx hb gX12_kindOn_5.2.2.2.2.2.2.2.2.2 (by decide) ?_
      refine toQ hQ0 ?_
      exact RP (v := (-1)) hC (Or.inl (⟨rfl, (by unfold KOM; first | (simp only [ifc_t hjt, ifc_t ekq, ifc_t hkq, ifc_t ek8, ifc_t hk8, ifc_t ek9, ifc_t hk9, ifc_t hN, ifc_f c_13_5895, ifc_t c_13_5913, ifc_f a5915, ifc_f (q := fnsh jt = 1) (by rw [c_13_5913]; decide), ifc_f (q := fnsh jt = 3) (by rw [c_13_5913]; decide)]; done) | (simp only [ifc_t hjt, ifc_t ekq, ifc_t hkq, ifc_t ek8, ifc_t hk8, ifc_t ek9, ifc_t hk9, ifc_t hN, ifc_f c_13_5895, ifc_t c_13_5913, ifc_f a5915, ifc_f (q := fnsh jt = 1) (by rw [c_13_5913]; decide), ifc_f (q := fnsh jt = 3) (by rw [c_13_5913]; decide)]; rfl))⟩)) rfl gX12_kindOn_6.2.2.2.2.2.2.2.2.1
  by_cases c_13_5920 : fnsh jt = 3
  · refine lv_tableIn (tgt := 141) hx hb gX12_kindOn_0.2.2.2.2.2.2.2.2.2 (by rw [c_13_5920]; decide) (by rw [c_13_5920]; decide) (by rw [c_13_5920]; rfl) (by decide) ?_
    refine lv_aload_n hx hb gX12_kindOn_6.2.2.2.2.2.2.2.2.2 rfl (lv_at1 hl) ?_
    refine lv_iload_n hx hb gX12_kindOn_7.1 rfl (lv_at0 hl) ?_
    refine lv_bipush (v := 9) hx hb gX12_kindOn_7.2.1 (by decide) ?_
    refine pV hC hK hl hP hD (m_is l G k9 h0 (fnsf jt) 9 nw nk mhasKept nt mtaped nr mrowMany mroundOf mroundFrom mouts nm mfromHour mtoHour ns mfrom mto msort misFault mdeep mcoded mlines nl nc nF np ntr nb mbestCost nso nsi nit nsh nsf nss nrc mtraced mdealer mnumber mwhose msize misParted fnw (by omega) (ek9) (by omega)) si_X12_120 [0, 1] sm_0_1 fm_0_1 nd_0_1 rfl rfl rfl rfl rfl (Nat.le_of_ble_eq_true rfl) rm_3_2_3 ⟨by first | exact Nat.le_of_ble_eq_true rfl | exact Nat.zero_le _, by first | exact Nat.le_of_ble_eq_true rfl | exact Nat.zero_le _⟩ gX12_kindOn_7.2.2.1 (Kors (Keqa fun a5922 => ?_) (Keqa fun a5922 => ?_))
    · refine lv_if_eq (tgt := 156) hx hb gX12_kindOn_7.2.2.2.1 (by decide) (fun c9 => absurd c9 (by decide)) (fun _ => ?_)
      refine lv_bipush (v := 6) hx hb gX12_kindOn_7.2.2.2.2.1 (by decide) ?_
      refine lv_goto (tgt := 157) hx hb gX12_kindOn_7.2.2.2.2.2.1 (by decide) ?_
      refine toQ hQ0 ?_
      exact RP (v := 6) hC (Or.inr (Or.inr (Or.inr (Or.inr (Or.inr (Or.inr (⟨rfl, (by unfold KOM; first | (simp only [ifc_t hjt, ifc_t ekq, ifc_t hkq, ifc_t ek8, ifc_t hk8, ifc_t ek9, ifc_t hk9, ifc_t hN, ifc_f c_13_5895, ifc_f c_13_5913, ifc_t c_13_5920, ifc_t a5922, ifc_f (q := fnsh jt = 1) (by rw [c_13_5920]; decide), ifc_f (q := fnsh jt = 2) (by rw [c_13_5920]; decide)]; done) | (simp only [ifc_t hjt, ifc_t ekq, ifc_t hkq, ifc_t ek8, ifc_t hk8, ifc_t ek9, ifc_t hk9, ifc_t hN, ifc_f c_13_5895, ifc_f c_13_5913, ifc_t c_13_5920, ifc_t a5922, ifc_f (q := fnsh jt = 1) (by rw [c_13_5920]; decide), ifc_f (q := fnsh jt = 2) (by rw [c_13_5920]; decide)]; rfl))⟩))))))) rfl gX12_kindOn_7.2.2.2.2.2.2.2.1
    · refine lv_if_eq (tgt := 156) hx hb gX12_kindOn_7.2.2.2.1 (by decide) (fun _ => ?_) (fun c9 => absurd (by decide) c9)
      refine lv_iconst (v := (-1)) hx hb gX12_kindOn_7.2.2.2.2.2.2.1 (by decide) ?_
      refine toQ hQ0 ?_
      exact RP (v := (-1)) hC (Or.inl (⟨rfl, (by unfold KOM; first | (simp only [ifc_t hjt, ifc_t ekq, ifc_t hkq, ifc_t ek8, ifc_t hk8, ifc_t ek9, ifc_t hk9, ifc_t hN, ifc_f c_13_5895, ifc_f c_13_5913, ifc_t c_13_5920, ifc_f a5922, ifc_f (q := fnsh jt = 1) (by rw [c_13_5920]; decide), ifc_f (q := fnsh jt = 2) (by rw [c_13_5920]; decide)]; done) | (simp only [ifc_t hjt, ifc_t ekq, ifc_t hkq, ifc_t ek8, ifc_t hk8, ifc_t ek9, ifc_t hk9, ifc_t hN, ifc_f c_13_5895, ifc_f c_13_5913, ifc_t c_13_5920, ifc_f a5922, ifc_f (q := fnsh jt = 1) (by rw [c_13_5920]; decide), ifc_f (q := fnsh jt = 2) (by rw [c_13_5920]; decide)]; rfl))⟩)) rfl gX12_kindOn_7.2.2.2.2.2.2.2.1
  refine lv_tableOut (tgt := 158) hx hb gX12_kindOn_0.2.2.2.2.2.2.2.2.2 (by have q9 := sw_1_3 (x := fnsh jt); simp only [c_13_5895, c_13_5913, c_13_5920, not_false_eq_true, true_implies] at q9; exact q9) (by decide) ?_
  refine lv_iconst (v := (-1)) hx hb gX12_kindOn_7.2.2.2.2.2.2.2.2.1 (by decide) ?_
  refine toQ hQ0 ?_
  exact RP (v := (-1)) hC (Or.inl (⟨rfl, (by unfold KOM; first | (simp only [ifc_t hjt, ifc_t ekq, ifc_t hkq, ifc_t ek8, ifc_t hk8, ifc_t ek9, ifc_t hk9, ifc_t hN, ifc_f c_13_5895, ifc_f c_13_5913, ifc_f c_13_5920]; done) | (simp only [ifc_t hjt, ifc_t ekq, ifc_t hkq, ifc_t ek8, ifc_t hk8, ifc_t ek9, ifc_t hk9, ifc_t hN, ifc_f c_13_5895, ifc_f c_13_5913, ifc_f c_13_5920]; rfl))⟩)) rfl gX12_kindOn_7.2.2.2.2.2.2.2.2.2
def K_r_taken (l : Launch) (G : GG) (kq : Nat) (k8 : Nat) (k9 : Nat) (h0 : Nat) (x1 : Int32) (x2 : Int32) (nw : Nat) (nk : Nat) (mhasKept : Int32) (nt : Nat) (mtaped : Int32) (nr : Nat) (mrowMany : Int32) (mroundOf : Int32) (mroundFrom : Int32) (mouts : Int32) (nm : Nat) (mfromHour : Int32) (mtoHour : Int32) (ns : Nat) (mfrom : Int32) (mto : Int32) (msort : Int32) (misFault : Int32) (mdeep : Int32) (mcoded : Int32) (mlines : Int32) (nl : Nat) (nc : Nat) (nF : Nat) (np : Nat) (ntr : Nat) (nb : Nat) (mbestCost : Int32) (nso : Nat) (nsi : Nat) (nit : Nat) (nsh : Nat) (nsf : Nat) (nss : Nat) (nrc : Nat) (mtraced : Int32) (mdealer : Int32) (mnumber : Int32) (mwhose : Int32) (msize : Int32) (misParted : Int32) (fnw : Nat → Int32) (fnsh : Nat → Int32) (fnsf : Nat → Int32) (fnss : Nat → Int32) : Prop := MP l G yX12_taken cX12_taken 4 (some .int) 4 [.ref h0, .int x1, .int x2] [(h0, oX12 nw nk mhasKept nt mtaped nr mrowMany mroundOf mroundFrom mouts nm mfromHour mtoHour ns mfrom mto msort misFault mdeep mcoded mlines nl nc nF np ntr nb mbestCost nso nsi nit nsh nsf nss nrc mtraced mdealer mnumber mwhose msize misParted), (nw, iA G 1662 fnw), (nsh, iA G 4 fnsh), (nsf, iA G 4 fnsf), (nss, iA G 4 fnss)] (fun r : Int32 => r = ifc (Wi x1 0 3) (ifc (Wi x2 0 6 ∨ Wi x2 10 14) (ifc (fnsh x1.toNatClampNeg = 4) (ifc (x2 - 10 = fnsf x1.toNatClampNeg) (fnss x1.toNatClampNeg) (-13)) (ifc (KOM (fnsh x1.toNatClampNeg) (fnsf x1.toNatClampNeg) kq k8 k9 (shf fnw 32) (shf fnw 1424) < 0) (-11) (ifc (UNl (KOM (fnsh x1.toNatClampNeg) (fnsf x1.toNatClampNeg) kq k8 k9 (shf fnw 32) (shf fnw 1424)).toNatClampNeg x2) (fnsf x1.toNatClampNeg) (-13)))) (-1)) (-1))
set_option maxHeartbeats 4000000 in
set_option maxRecDepth 100000 in
theorem r_taken (l : Launch) (G : GG) (kq : Nat) (k8 : Nat) (k9 : Nat) (h0 : Nat) (x1 : Int32) (x2 : Int32) (nw : Nat) (nk : Nat) (mhasKept : Int32) (nt : Nat) (mtaped : Int32) (nr : Nat) (mrowMany : Int32) (mroundOf : Int32) (mroundFrom : Int32) (mouts : Int32) (nm : Nat) (mfromHour : Int32) (mtoHour : Int32) (ns : Nat) (mfrom : Int32) (mto : Int32) (msort : Int32) (misFault : Int32) (mdeep : Int32) (mcoded : Int32) (mlines : Int32) (nl : Nat) (nc : Nat) (nF : Nat) (np : Nat) (ntr : Nat) (nb : Nat) (mbestCost : Int32) (nso : Nat) (nsi : Nat) (nit : Nat) (nsh : Nat) (nsf : Nat) (nss : Nat) (nrc : Nat) (mtraced : Int32) (mdealer : Int32) (mnumber : Int32) (mwhose : Int32) (msize : Int32) (misParted : Int32) (fnw : Nat → Int32) (fnsh : Nat → Int32) (fnsf : Nat → Int32) (fnss : Nat → Int32) (ekq : fnw 5 = nI kq) (hkq : kq ≤ 12) (ek8 : fnw 8 = nI k8) (hk8 : k8 ≤ 16) (ek9 : fnw 9 = nI k9) (hk9 : k9 ≤ 12) (hN : NI fnw) : K_r_taken l G kq k8 k9 h0 x1 x2 nw nk mhasKept nt mtaped nr mrowMany mroundOf mroundFrom mouts nm mfromHour mtoHour ns mfrom mto msort misFault mdeep mcoded mlines nl nc nF np ntr nb mbestCost nso nsi nit nsh nsf nss nrc mtraced mdealer mnumber mwhose msize misParted fnw fnsh fnsf fnss := by
  refine MP.start (by decide +kernel) (Nat.le_of_ble_eq_true rfl) ?_
  intro p e s m below meth c ls hC hK hP hD hl
  refine absQ (fun Q0 hQ0 => ?_)
  have hl : lv_has ls 4 [(0, .ref h0), (1, .int x1), (2, .int x2)] := hl
  refine Kan8 hC (fun hx hb hr hml hB hown hlocks hnm => ?_)
  refine lv_iload_n hx hb gX12_taken_0.1 rfl (lv_at1 hl) ?_
  refine pS hC hK hl (m_isFour l G x1) si_X12_336 rfl rfl (Nat.le_of_ble_eq_true rfl) rm_4_2_1 ⟨by first | exact Nat.le_of_ble_eq_true rfl | exact Nat.zero_le _, by first | exact Nat.le_of_ble_eq_true rfl | exact Nat.zero_le _⟩ gX12_taken_0.2.1 (Kors (Keqa fun a5924 => ?_) (Keqa fun a5924 => ?_))
  · refine lv_if_eq (tgt := 28) hx hb gX12_taken_0.2.2.1 (by decide) (fun c9 => absurd c9 (by decide)) (fun _ => ?_)
    refine lv_iload_n hx hb gX12_taken_0.2.2.2.1 rfl (lv_at2 hl) ?_
    refine lv_iconst (v := 0) hx hb gX12_taken_0.2.2.2.2.1 (by decide) ?_
    refine lv_bipush (v := 6) hx hb gX12_taken_0.2.2.2.2.2.1 (by decide) ?_
    refine pS hC hK hl (m_within l G x2 0 6) si_X12_84 rfl rfl (Nat.le_of_ble_eq_true rfl) rm_4_1_3 ⟨by first | exact Nat.le_of_ble_eq_true rfl | exact Nat.zero_le _, by first | exact Nat.le_of_ble_eq_true rfl | exact Nat.zero_le _⟩ gX12_taken_0.2.2.2.2.2.2.1 (Kors (Keqa fun a5926 => ?_) (Keqa fun a5926 => ?_))
    · refine lv_if_ne (tgt := 30) hx hb gX12_taken_0.2.2.2.2.2.2.2.1 (by decide) (fun _ => ?_) (fun c9 => absurd c9 (by decide))
      obtain ⟨jt, hjt, rfl⟩ := Wi_nat (N := 3) (by decide) a5924
      refine lv_aload_n hx hb gX12_taken_1.2.2.2.2.2.1 rfl (lv_at0 hl) ?_
      refine gf_X12_72 hC rfl hK hP 0 rfl rfl gX12_taken_1.2.2.2.2.2.2.1 ?_
      refine lv_iload_n hx hb gX12_taken_1.2.2.2.2.2.2.2.1 rfl (lv_at1 hl) ?_
      refine aldN hC hK hP 2 rfl (k := jt) (by omega) (Nat.le_of_ble_eq_true rfl) (v := fnsh jt) rfl gX12_taken_1.2.2.2.2.2.2.2.2.1 ?_
      refine lv_iconst (v := 4) hx hb gX12_taken_1.2.2.2.2.2.2.2.2.2 (by decide) ?_
      refine lv_icmp_ne (tgt := 65) hx hb gX12_taken_2.1 (by decide) (fun c_37_5927 => ?_) (fun c_37_5927 => ?_)
      · refine lv_aload_n hx hb gX12_taken_3.2.2.2.2.2.2.1 rfl (lv_at0 hl) ?_
        refine lv_iload_n hx hb gX12_taken_3.2.2.2.2.2.2.2.1 rfl (lv_at1 hl) ?_
        refine pV hC hK hl hP hD (m_kindOnX l G kq k8 k9 h0 jt nw nk mhasKept nt mtaped nr mrowMany mroundOf mroundFrom mouts nm mfromHour mtoHour ns mfrom mto msort misFault mdeep mcoded mlines nl nc nF np ntr nb mbestCost nso nsi nit nsh nsf nss nrc mtraced mdealer mnumber mwhose msize misParted fnw fnsh fnsf (by omega) (ekq) (hkq) (ek8) (hk8) (ek9) (hk9) (hN)) si_X12_345 [0, 1, 2, 3] sm_0_1_2_3 fm_0_1_2_3 nd_0_1_2_3 rfl rfl rfl rfl rfl (Nat.le_of_ble_eq_true rfl) rm_4_3_4 ⟨by first | exact Nat.le_of_ble_eq_true rfl | exact Nat.zero_le _, by first | exact Nat.le_of_ble_eq_true rfl | exact Nat.zero_le _⟩ gX12_taken_3.2.2.2.2.2.2.2.2.1 (Kors (Keqa fun a5929 => ?_) (Kors (Keqa fun a5929 => ?_) (Kors (Keqa fun a5929 => ?_) (Kors (Keqa fun a5929 => ?_) (Kors (Keqa fun a5929 => ?_) (Kors (Keqa fun a5929 => ?_) (Keqa fun a5929 => ?_)))))))
        · refine lv_istore_n (lv' := [(3, .int (-1)), (0, .ref h0), (1, .int (nI jt)), (2, .int x2)]) hx hb gX12_taken_3.2.2.2.2.2.2.2.2.2 rfl hl (by decide) rfl (fun ls hl => ?_)
          refine lv_iload_n hx hb gX12_taken_4.1 rfl (lv_at0 hl) ?_
          refine lv_if_ge (tgt := 78) hx hb gX12_taken_4.2.1 (by decide) (fun c9 => absurd c9 (by decide)) (fun _ => ?_)
          refine lv_bipush (v := (-11)) hx hb gX12_taken_4.2.2.1 (by decide) ?_
          refine toQ hQ0 ?_
          exact RP (v := (-11)) hC ((by first | rfl | (simp only [nI_clamp (n := jt) (by omega), ifc_t ekq, ifc_t hkq, ifc_t ek8, ifc_t hk8, ifc_t ek9, ifc_t hk9, ifc_t hN, ifc_t a5924, ifc_t a5926, ifc_f c_37_5927, ifc_t (q := Wi x2 0 6 ∨ Wi x2 10 14) (Or.inl a5926), a5929, ifc_t (q := (-1 : Int32) < 0) (by decide)]; done) | (simp only [nI_clamp (n := jt) (by omega), ifc_t ekq, ifc_t hkq, ifc_t ek8, ifc_t hk8, ifc_t ek9, ifc_t hk9, ifc_t hN, ifc_t a5924, ifc_t a5926, ifc_f c_37_5927, ifc_t (q := Wi x2 0 6 ∨ Wi x2 10 14) (Or.inl a5926), a5929, ifc_t (q := (-1 : Int32) < 0) (by decide)]; rfl))) rfl gX12_taken_4.2.2.2.1
        · refine lv_istore_n (lv' := [(3, .int 1), (0, .ref h0), (1, .int (nI jt)), (2, .int x2)]) hx hb gX12_taken_3.2.2.2.2.2.2.2.2.2 rfl hl (by decide) rfl (fun ls hl => ?_)
          refine lv_iload_n hx hb gX12_taken_4.1 rfl (lv_at0 hl) ?_
          refine lv_if_ge (tgt := 78) hx hb gX12_taken_4.2.1 (by decide) (fun _ => ?_) (fun c9 => absurd (by decide) c9)
          refine lv_iload_n hx hb gX12_taken_4.2.2.2.2.1 rfl (lv_at0 hl) ?_
          refine lv_if_lt (tgt := 95) hx hb gX12_taken_4.2.2.2.2.2.1 (by decide) (fun c9 => absurd c9 (by decide)) (fun _ => ?_)
          refine lv_iload_n hx hb gX12_taken_4.2.2.2.2.2.2.1 rfl (lv_at0 hl) ?_
          refine lv_iload_n hx hb gX12_taken_4.2.2.2.2.2.2.2.1 rfl (lv_at3 hl) ?_
          refine lv_icmp_eq (tgt := 95) hx hb gX12_taken_4.2.2.2.2.2.2.2.2.1 (by decide) (fun c_84_5930 => ?_) (fun c_84_5930 => ?_)
          · refine lv_iload_n hx hb gX12_taken_5.2.2.2.1 rfl (lv_at0 hl) ?_
            refine lv_iload_n hx hb gX12_taken_5.2.2.2.2.1 rfl (lv_at3 hl) ?_
            refine lv_icmp_ne (tgt := 109) hx hb gX12_taken_5.2.2.2.2.2.1 (by decide) (fun c9 => absurd (c_84_5930) c9) (fun _ => ?_)
            refine lv_aload_n hx hb gX12_taken_5.2.2.2.2.2.2.1 rfl (lv_at1 hl) ?_
            refine gf_X12_75 hC rfl hK hP 0 rfl rfl gX12_taken_5.2.2.2.2.2.2.2.1 ?_
            refine lv_iload_n hx hb gX12_taken_5.2.2.2.2.2.2.2.2.1 rfl (lv_at2 hl) ?_
            refine aldN hC hK hP 3 rfl (k := jt) (by omega) (Nat.le_of_ble_eq_true rfl) (v := fnsf jt) rfl gX12_taken_5.2.2.2.2.2.2.2.2.2 ?_
            refine lv_goto (tgt := 111) hx hb gX12_taken_6.1 (by decide) ?_
            refine toQ hQ0 ?_
            exact RP (v := fnsf jt) hC ((by first | rfl | (simp only [nI_clamp (n := jt) (by omega), ifc_t ekq, ifc_t hkq, ifc_t ek8, ifc_t hk8, ifc_t ek9, ifc_t hk9, ifc_t hN, ifc_t a5924, ifc_t a5926, ifc_f c_37_5927, ifc_t c_84_5930, ifc_t (q := Wi x2 0 6 ∨ Wi x2 10 14) (Or.inl a5926), a5929, ifc_f (q := (1 : Int32) < 0) (by decide), ifc_t (q := UNl (1 : Int32).toNatClampNeg x2) (show UNl 1 x2 from Or.inl (c_84_5930.symm))]; done) | (simp only [nI_clamp (n := jt) (by omega), ifc_t ekq, ifc_t hkq, ifc_t ek8, ifc_t hk8, ifc_t ek9, ifc_t hk9, ifc_t hN, ifc_t a5924, ifc_t a5926, ifc_f c_37_5927, ifc_t c_84_5930, ifc_t (q := Wi x2 0 6 ∨ Wi x2 10 14) (Or.inl a5926), a5929, ifc_f (q := (1 : Int32) < 0) (by decide), ifc_t (q := UNl (1 : Int32).toNatClampNeg x2) (show UNl 1 x2 from Or.inl (c_84_5930.symm))]; rfl))) rfl gX12_taken_6.2.2
          · refine lv_iload_n hx hb gX12_taken_4.2.2.2.2.2.2.2.2.2 rfl (lv_at0 hl) ?_
            refine pS hC hK hl (m_above1 l G) si_X12_348 rfl rfl (Nat.le_of_ble_eq_true rfl) rm_4_1_1 ⟨by first | exact Nat.le_of_ble_eq_true rfl | exact Nat.zero_le _, by first | exact Nat.le_of_ble_eq_true rfl | exact Nat.zero_le _⟩ gX12_taken_5.1 (Keqr ?_)
            refine lv_istore_n (lv' := [(3, .int 0), (0, .ref h0), (1, .int (nI jt)), (2, .int x2)]) hx hb gX12_taken_5.2.1 rfl hl (by decide) rfl (fun ls hl => ?_)
            refine lv_goto (tgt := 78) hx hb gX12_taken_5.2.2.1 (by decide) ?_
            refine lv_iload_n hx hb gX12_taken_4.2.2.2.2.1 rfl (lv_at0 hl) ?_
            refine lv_if_lt (tgt := 95) hx hb gX12_taken_4.2.2.2.2.2.1 (by decide) (fun c9 => absurd c9 (by decide)) (fun _ => ?_)
            refine lv_iload_n hx hb gX12_taken_4.2.2.2.2.2.2.1 rfl (lv_at0 hl) ?_
            refine lv_iload_n hx hb gX12_taken_4.2.2.2.2.2.2.2.1 rfl (lv_at3 hl) ?_
            refine lv_icmp_eq (tgt := 95) hx hb gX12_taken_4.2.2.2.2.2.2.2.2.1 (by decide) (fun c_84_5933 => ?_) (fun c_84_5933 => ?_)
            · refine lv_iload_n hx hb gX12_taken_5.2.2.2.1 rfl (lv_at0 hl) ?_
              refine lv_iload_n hx hb gX12_taken_5.2.2.2.2.1 rfl (lv_at3 hl) ?_
              refine lv_icmp_ne (tgt := 109) hx hb gX12_taken_5.2.2.2.2.2.1 (by decide) (fun c9 => absurd (c_84_5933) c9) (fun _ => ?_)
              refine lv_aload_n hx hb gX12_taken_5.2.2.2.2.2.2.1 rfl (lv_at1 hl) ?_
              refine gf_X12_75 hC rfl hK hP 0 rfl rfl gX12_taken_5.2.2.2.2.2.2.2.1 ?_
              refine lv_iload_n hx hb gX12_taken_5.2.2.2.2.2.2.2.2.1 rfl (lv_at2 hl) ?_
              refine aldN hC hK hP 3 rfl (k := jt) (by omega) (Nat.le_of_ble_eq_true rfl) (v := fnsf jt) rfl gX12_taken_5.2.2.2.2.2.2.2.2.2 ?_
              refine lv_goto (tgt := 111) hx hb gX12_taken_6.1 (by decide) ?_
              refine toQ hQ0 ?_
              exact RP (v := fnsf jt) hC ((by first | rfl | (simp only [nI_clamp (n := jt) (by omega), ifc_t ekq, ifc_t hkq, ifc_t ek8, ifc_t hk8, ifc_t ek9, ifc_t hk9, ifc_t hN, ifc_t a5924, ifc_t a5926, ifc_f c_37_5927, ifc_f c_84_5930, ifc_t c_84_5933, ifc_t (q := Wi x2 0 6 ∨ Wi x2 10 14) (Or.inl a5926), a5929, ifc_f (q := (1 : Int32) < 0) (by decide), ifc_t (q := UNl (1 : Int32).toNatClampNeg x2) (show UNl 1 x2 from Or.inr (c_84_5933.symm))]; done) | (simp only [nI_clamp (n := jt) (by omega), ifc_t ekq, ifc_t hkq, ifc_t ek8, ifc_t hk8, ifc_t ek9, ifc_t hk9, ifc_t hN, ifc_t a5924, ifc_t a5926, ifc_f c_37_5927, ifc_f c_84_5930, ifc_t c_84_5933, ifc_t (q := Wi x2 0 6 ∨ Wi x2 10 14) (Or.inl a5926), a5929, ifc_f (q := (1 : Int32) < 0) (by decide), ifc_t (q := UNl (1 : Int32).toNatClampNeg x2) (show UNl 1 x2 from Or.inr (c_84_5933.symm))]; rfl))) rfl gX12_taken_6.2.2
            · refine lv_iload_n hx hb gX12_taken_4.2.2.2.2.2.2.2.2.2 rfl (lv_at0 hl) ?_
              refine pS hC hK hl (m_above0 l G) si_X12_348 rfl rfl (Nat.le_of_ble_eq_true rfl) rm_4_1_1 ⟨by first | exact Nat.le_of_ble_eq_true rfl | exact Nat.zero_le _, by first | exact Nat.le_of_ble_eq_true rfl | exact Nat.zero_le _⟩ gX12_taken_5.1 (Keqr ?_)
              refine lv_istore_n (lv' := [(3, .int (-1)), (0, .ref h0), (1, .int (nI jt)), (2, .int x2)]) hx hb gX12_taken_5.2.1 rfl hl (by decide) rfl (fun ls hl => ?_)
              refine lv_goto (tgt := 78) hx hb gX12_taken_5.2.2.1 (by decide) ?_
              refine lv_iload_n hx hb gX12_taken_4.2.2.2.2.1 rfl (lv_at0 hl) ?_
              refine lv_if_lt (tgt := 95) hx hb gX12_taken_4.2.2.2.2.2.1 (by decide) (fun _ => ?_) (fun c9 => absurd (by decide) c9)
              refine lv_iload_n hx hb gX12_taken_5.2.2.2.1 rfl (lv_at0 hl) ?_
              refine lv_iload_n hx hb gX12_taken_5.2.2.2.2.1 rfl (lv_at3 hl) ?_
              refine lv_icmp_ne (tgt := 109) hx hb gX12_taken_5.2.2.2.2.2.1 (by decide) (fun c_97_5936 => ?_) (fun c_97_5936 => ?_)
              · refine lv_bipush (v := (-13)) hx hb gX12_taken_6.2.1 (by decide) ?_
                refine toQ hQ0 ?_
                exact RP (v := (-13)) hC ((by first | rfl | (simp only [nI_clamp (n := jt) (by omega), ifc_t ekq, ifc_t hkq, ifc_t ek8, ifc_t hk8, ifc_t ek9, ifc_t hk9, ifc_t hN, ifc_t a5924, ifc_t a5926, ifc_f c_37_5927, ifc_f c_84_5930, ifc_f c_84_5933, ifc_f c_97_5936, ifc_t (q := Wi x2 0 6 ∨ Wi x2 10 14) (Or.inl a5926), a5929, ifc_f (q := (1 : Int32) < 0) (by decide), ifc_f (q := UNl (1 : Int32).toNatClampNeg x2) (fun h9 => (show False from by have h7 : x2 = 1 ∨ x2 = 0 := h9; rcases h7 with h8 | h8 <;> (first | exact c_84_5930 h8.symm | exact c_84_5933 h8.symm)))]; done) | (simp only [nI_clamp (n := jt) (by omega), ifc_t ekq, ifc_t hkq, ifc_t ek8, ifc_t hk8, ifc_t ek9, ifc_t hk9, ifc_t hN, ifc_t a5924, ifc_t a5926, ifc_f c_37_5927, ifc_f c_84_5930, ifc_f c_84_5933, ifc_f c_97_5936, ifc_t (q := Wi x2 0 6 ∨ Wi x2 10 14) (Or.inl a5926), a5929, ifc_f (q := (1 : Int32) < 0) (by decide), ifc_f (q := UNl (1 : Int32).toNatClampNeg x2) (fun h9 => (show False from by have h7 : x2 = 1 ∨ x2 = 0 := h9; rcases h7 with h8 | h8 <;> (first | exact c_84_5930 h8.symm | exact c_84_5933 h8.symm)))]; rfl))) rfl gX12_taken_6.2.2
              · refine lv_aload_n hx hb gX12_taken_5.2.2.2.2.2.2.1 rfl (lv_at1 hl) ?_
                refine gf_X12_75 hC rfl hK hP 0 rfl rfl gX12_taken_5.2.2.2.2.2.2.2.1 ?_
                refine lv_iload_n hx hb gX12_taken_5.2.2.2.2.2.2.2.2.1 rfl (lv_at2 hl) ?_
                refine aldN hC hK hP 3 rfl (k := jt) (by omega) (Nat.le_of_ble_eq_true rfl) (v := fnsf jt) rfl gX12_taken_5.2.2.2.2.2.2.2.2.2 ?_
                refine lv_goto (tgt := 111) hx hb gX12_taken_6.1 (by decide) ?_
                refine toQ hQ0 ?_
                exact RP (v := fnsf jt) hC ((absurd a5926 (by rw [← c_97_5936]; unfold Wi; decide))) rfl gX12_taken_6.2.2
        · refine lv_istore_n (lv' := [(3, .int 2), (0, .ref h0), (1, .int (nI jt)), (2, .int x2)]) hx hb gX12_taken_3.2.2.2.2.2.2.2.2.2 rfl hl (by decide) rfl (fun ls hl => ?_)
          refine lv_iload_n hx hb gX12_taken_4.1 rfl (lv_at0 hl) ?_
          refine lv_if_ge (tgt := 78) hx hb gX12_taken_4.2.1 (by decide) (fun _ => ?_) (fun c9 => absurd (by decide) c9)
          refine lv_iload_n hx hb gX12_taken_4.2.2.2.2.1 rfl (lv_at0 hl) ?_
          refine lv_if_lt (tgt := 95) hx hb gX12_taken_4.2.2.2.2.2.1 (by decide) (fun c9 => absurd c9 (by decide)) (fun _ => ?_)
          refine lv_iload_n hx hb gX12_taken_4.2.2.2.2.2.2.1 rfl (lv_at0 hl) ?_
          refine lv_iload_n hx hb gX12_taken_4.2.2.2.2.2.2.2.1 rfl (lv_at3 hl) ?_
          refine lv_icmp_eq (tgt := 95) hx hb gX12_taken_4.2.2.2.2.2.2.2.2.1 (by decide) (fun c_84_5937 => ?_) (fun c_84_5937 => ?_)
          · refine lv_iload_n hx hb gX12_taken_5.2.2.2.1 rfl (lv_at0 hl) ?_
            refine lv_iload_n hx hb gX12_taken_5.2.2.2.2.1 rfl (lv_at3 hl) ?_
            refine lv_icmp_ne (tgt := 109) hx hb gX12_taken_5.2.2.2.2.2.1 (by decide) (fun c9 => absurd (c_84_5937) c9) (fun _ => ?_)
            refine lv_aload_n hx hb gX12_taken_5.2.2.2.2.2.2.1 rfl (lv_at1 hl) ?_
            refine gf_X12_75 hC rfl hK hP 0 rfl rfl gX12_taken_5.2.2.2.2.2.2.2.1 ?_
            refine lv_iload_n hx hb gX12_taken_5.2.2.2.2.2.2.2.2.1 rfl (lv_at2 hl) ?_
            refine aldN hC hK hP 3 rfl (k := jt) (by omega) (Nat.le_of_ble_eq_true rfl) (v := fnsf jt) rfl gX12_taken_5.2.2.2.2.2.2.2.2.2 ?_
            refine lv_goto (tgt := 111) hx hb gX12_taken_6.1 (by decide) ?_
            refine toQ hQ0 ?_
            exact RP (v := fnsf jt) hC ((by first | rfl | (simp only [nI_clamp (n := jt) (by omega), ifc_t ekq, ifc_t hkq, ifc_t ek8, ifc_t hk8, ifc_t ek9, ifc_t hk9, ifc_t hN, ifc_t a5924, ifc_t a5926, ifc_f c_37_5927, ifc_t c_84_5937, ifc_t (q := Wi x2 0 6 ∨ Wi x2 10 14) (Or.inl a5926), a5929, ifc_f (q := (2 : Int32) < 0) (by decide), ifc_t (q := UNl (2 : Int32).toNatClampNeg x2) (show UNl 2 x2 from Or.inl (c_84_5937.symm))]; done) | (simp only [nI_clamp (n := jt) (by omega), ifc_t ekq, ifc_t hkq, ifc_t ek8, ifc_t hk8, ifc_t ek9, ifc_t hk9, ifc_t hN, ifc_t a5924, ifc_t a5926, ifc_f c_37_5927, ifc_t c_84_5937, ifc_t (q := Wi x2 0 6 ∨ Wi x2 10 14) (Or.inl a5926), a5929, ifc_f (q := (2 : Int32) < 0) (by decide), ifc_t (q := UNl (2 : Int32).toNatClampNeg x2) (show UNl 2 x2 from Or.inl (c_84_5937.symm))]; rfl))) rfl gX12_taken_6.2.2
          · refine lv_iload_n hx hb gX12_taken_4.2.2.2.2.2.2.2.2.2 rfl (lv_at0 hl) ?_
            refine pS hC hK hl (m_above2 l G) si_X12_348 rfl rfl (Nat.le_of_ble_eq_true rfl) rm_4_1_1 ⟨by first | exact Nat.le_of_ble_eq_true rfl | exact Nat.zero_le _, by first | exact Nat.le_of_ble_eq_true rfl | exact Nat.zero_le _⟩ gX12_taken_5.1 (Keqr ?_)
            refine lv_istore_n (lv' := [(3, .int 0), (0, .ref h0), (1, .int (nI jt)), (2, .int x2)]) hx hb gX12_taken_5.2.1 rfl hl (by decide) rfl (fun ls hl => ?_)
            refine lv_goto (tgt := 78) hx hb gX12_taken_5.2.2.1 (by decide) ?_
            refine lv_iload_n hx hb gX12_taken_4.2.2.2.2.1 rfl (lv_at0 hl) ?_
            refine lv_if_lt (tgt := 95) hx hb gX12_taken_4.2.2.2.2.2.1 (by decide) (fun c9 => absurd c9 (by decide)) (fun _ => ?_)
            refine lv_iload_n hx hb gX12_taken_4.2.2.2.2.2.2.1 rfl (lv_at0 hl) ?_
            refine lv_iload_n hx hb gX12_taken_4.2.2.2.2.2.2.2.1 rfl (lv_at3 hl) ?_
            refine lv_icmp_eq (tgt := 95) hx hb gX12_taken_4.2.2.2.2.2.2.2.2.1 (by decide) (fun c_84_5940 => ?_) (fun c_84_5940 => ?_)
            · refine lv_iload_n hx hb gX12_taken_5.2.2.2.1 rfl (lv_at0 hl) ?_
              refine lv_iload_n hx hb gX12_taken_5.2.2.2.2.1 rfl (lv_at3 hl) ?_
              refine lv_icmp_ne (tgt := 109) hx hb gX12_taken_5.2.2.2.2.2.1 (by decide) (fun c9 => absurd (c_84_5940) c9) (fun _ => ?_)
              refine lv_aload_n hx hb gX12_taken_5.2.2.2.2.2.2.1 rfl (lv_at1 hl) ?_
              refine gf_X12_75 hC rfl hK hP 0 rfl rfl gX12_taken_5.2.2.2.2.2.2.2.1 ?_
              refine lv_iload_n hx hb gX12_taken_5.2.2.2.2.2.2.2.2.1 rfl (lv_at2 hl) ?_
              refine aldN hC hK hP 3 rfl (k := jt) (by omega) (Nat.le_of_ble_eq_true rfl) (v := fnsf jt) rfl gX12_taken_5.2.2.2.2.2.2.2.2.2 ?_
              refine lv_goto (tgt := 111) hx hb gX12_taken_6.1 (by decide) ?_
              refine toQ hQ0 ?_
              exact RP (v := fnsf jt) hC ((by first | rfl | (simp only [nI_clamp (n := jt) (by omega), ifc_t ekq, ifc_t hkq, ifc_t ek8, ifc_t hk8, ifc_t ek9, ifc_t hk9, ifc_t hN, ifc_t a5924, ifc_t a5926, ifc_f c_37_5927, ifc_f c_84_5937, ifc_t c_84_5940, ifc_t (q := Wi x2 0 6 ∨ Wi x2 10 14) (Or.inl a5926), a5929, ifc_f (q := (2 : Int32) < 0) (by decide), ifc_t (q := UNl (2 : Int32).toNatClampNeg x2) (show UNl 2 x2 from Or.inr (c_84_5940.symm))]; done) | (simp only [nI_clamp (n := jt) (by omega), ifc_t ekq, ifc_t hkq, ifc_t ek8, ifc_t hk8, ifc_t ek9, ifc_t hk9, ifc_t hN, ifc_t a5924, ifc_t a5926, ifc_f c_37_5927, ifc_f c_84_5937, ifc_t c_84_5940, ifc_t (q := Wi x2 0 6 ∨ Wi x2 10 14) (Or.inl a5926), a5929, ifc_f (q := (2 : Int32) < 0) (by decide), ifc_t (q := UNl (2 : Int32).toNatClampNeg x2) (show UNl 2 x2 from Or.inr (c_84_5940.symm))]; rfl))) rfl gX12_taken_6.2.2
            · refine lv_iload_n hx hb gX12_taken_4.2.2.2.2.2.2.2.2.2 rfl (lv_at0 hl) ?_
              refine pS hC hK hl (m_above0 l G) si_X12_348 rfl rfl (Nat.le_of_ble_eq_true rfl) rm_4_1_1 ⟨by first | exact Nat.le_of_ble_eq_true rfl | exact Nat.zero_le _, by first | exact Nat.le_of_ble_eq_true rfl | exact Nat.zero_le _⟩ gX12_taken_5.1 (Keqr ?_)
              refine lv_istore_n (lv' := [(3, .int (-1)), (0, .ref h0), (1, .int (nI jt)), (2, .int x2)]) hx hb gX12_taken_5.2.1 rfl hl (by decide) rfl (fun ls hl => ?_)
              refine lv_goto (tgt := 78) hx hb gX12_taken_5.2.2.1 (by decide) ?_
              refine lv_iload_n hx hb gX12_taken_4.2.2.2.2.1 rfl (lv_at0 hl) ?_
              refine lv_if_lt (tgt := 95) hx hb gX12_taken_4.2.2.2.2.2.1 (by decide) (fun _ => ?_) (fun c9 => absurd (by decide) c9)
              refine lv_iload_n hx hb gX12_taken_5.2.2.2.1 rfl (lv_at0 hl) ?_
              refine lv_iload_n hx hb gX12_taken_5.2.2.2.2.1 rfl (lv_at3 hl) ?_
              refine lv_icmp_ne (tgt := 109) hx hb gX12_taken_5.2.2.2.2.2.1 (by decide) (fun c_97_5943 => ?_) (fun c_97_5943 => ?_)
              · refine lv_bipush (v := (-13)) hx hb gX12_taken_6.2.1 (by decide) ?_
                refine toQ hQ0 ?_
                exact RP (v := (-13)) hC ((by first | rfl | (simp only [nI_clamp (n := jt) (by omega), ifc_t ekq, ifc_t hkq, ifc_t ek8, ifc_t hk8, ifc_t ek9, ifc_t hk9, ifc_t hN, ifc_t a5924, ifc_t a5926, ifc_f c_37_5927, ifc_f c_84_5937, ifc_f c_84_5940, ifc_f c_97_5943, ifc_t (q := Wi x2 0 6 ∨ Wi x2 10 14) (Or.inl a5926), a5929, ifc_f (q := (2 : Int32) < 0) (by decide), ifc_f (q := UNl (2 : Int32).toNatClampNeg x2) (fun h9 => (show False from by have h7 : x2 = 2 ∨ x2 = 0 := h9; rcases h7 with h8 | h8 <;> (first | exact c_84_5937 h8.symm | exact c_84_5940 h8.symm)))]; done) | (simp only [nI_clamp (n := jt) (by omega), ifc_t ekq, ifc_t hkq, ifc_t ek8, ifc_t hk8, ifc_t ek9, ifc_t hk9, ifc_t hN, ifc_t a5924, ifc_t a5926, ifc_f c_37_5927, ifc_f c_84_5937, ifc_f c_84_5940, ifc_f c_97_5943, ifc_t (q := Wi x2 0 6 ∨ Wi x2 10 14) (Or.inl a5926), a5929, ifc_f (q := (2 : Int32) < 0) (by decide), ifc_f (q := UNl (2 : Int32).toNatClampNeg x2) (fun h9 => (show False from by have h7 : x2 = 2 ∨ x2 = 0 := h9; rcases h7 with h8 | h8 <;> (first | exact c_84_5937 h8.symm | exact c_84_5940 h8.symm)))]; rfl))) rfl gX12_taken_6.2.2
              · refine lv_aload_n hx hb gX12_taken_5.2.2.2.2.2.2.1 rfl (lv_at1 hl) ?_
                refine gf_X12_75 hC rfl hK hP 0 rfl rfl gX12_taken_5.2.2.2.2.2.2.2.1 ?_
                refine lv_iload_n hx hb gX12_taken_5.2.2.2.2.2.2.2.2.1 rfl (lv_at2 hl) ?_
                refine aldN hC hK hP 3 rfl (k := jt) (by omega) (Nat.le_of_ble_eq_true rfl) (v := fnsf jt) rfl gX12_taken_5.2.2.2.2.2.2.2.2.2 ?_
                refine lv_goto (tgt := 111) hx hb gX12_taken_6.1 (by decide) ?_
                refine toQ hQ0 ?_
                exact RP (v := fnsf jt) hC ((absurd a5926 (by rw [← c_97_5943]; unfold Wi; decide))) rfl gX12_taken_6.2.2
        · refine lv_istore_n (lv' := [(3, .int 3), (0, .ref h0), (1, .int (nI jt)), (2, .int x2)]) hx hb gX12_taken_3.2.2.2.2.2.2.2.2.2 rfl hl (by decide) rfl (fun ls hl => ?_)
          refine lv_iload_n hx hb gX12_taken_4.1 rfl (lv_at0 hl) ?_
          refine lv_if_ge (tgt := 78) hx hb gX12_taken_4.2.1 (by decide) (fun _ => ?_) (fun c9 => absurd (by decide) c9)
          refine lv_iload_n hx hb gX12_taken_4.2.2.2.2.1 rfl (lv_at0 hl) ?_
          refine lv_if_lt (tgt := 95) hx hb gX12_taken_4.2.2.2.2.2.1 (by decide) (fun c9 => absurd c9 (by decide)) (fun _ => ?_)
          refine lv_iload_n hx hb gX12_taken_4.2.2.2.2.2.2.1 rfl (lv_at0 hl) ?_
          refine lv_iload_n hx hb gX12_taken_4.2.2.2.2.2.2.2.1 rfl (lv_at3 hl) ?_
          refine lv_icmp_eq (tgt := 95) hx hb gX12_taken_4.2.2.2.2.2.2.2.2.1 (by decide) (fun c_84_5944 => ?_) (fun c_84_5944 => ?_)
          · refine lv_iload_n hx hb gX12_taken_5.2.2.2.1 rfl (lv_at0 hl) ?_
            refine lv_iload_n hx hb gX12_taken_5.2.2.2.2.1 rfl (lv_at3 hl) ?_
            refine lv_icmp_ne (tgt := 109) hx hb gX12_taken_5.2.2.2.2.2.1 (by decide) (fun c9 => absurd (c_84_5944) c9) (fun _ => ?_)
            refine lv_aload_n hx hb gX12_taken_5.2.2.2.2.2.2.1 rfl (lv_at1 hl) ?_
            refine gf_X12_75 hC rfl hK hP 0 rfl rfl gX12_taken_5.2.2.2.2.2.2.2.1 ?_
            refine lv_iload_n hx hb gX12_taken_5.2.2.2.2.2.2.2.2.1 rfl (lv_at2 hl) ?_
            refine aldN hC hK hP 3 rfl (k := jt) (by omega) (Nat.le_of_ble_eq_true rfl) (v := fnsf jt) rfl gX12_taken_5.2.2.2.2.2.2.2.2.2 ?_
            refine lv_goto (tgt := 111) hx hb gX12_taken_6.1 (by decide) ?_
            refine toQ hQ0 ?_
            exact RP (v := fnsf jt) hC ((by first | rfl | (simp only [nI_clamp (n := jt) (by omega), ifc_t ekq, ifc_t hkq, ifc_t ek8, ifc_t hk8, ifc_t ek9, ifc_t hk9, ifc_t hN, ifc_t a5924, ifc_t a5926, ifc_f c_37_5927, ifc_t c_84_5944, ifc_t (q := Wi x2 0 6 ∨ Wi x2 10 14) (Or.inl a5926), a5929, ifc_f (q := (3 : Int32) < 0) (by decide), ifc_t (q := UNl (3 : Int32).toNatClampNeg x2) (show UNl 3 x2 from Or.inl (c_84_5944.symm))]; done) | (simp only [nI_clamp (n := jt) (by omega), ifc_t ekq, ifc_t hkq, ifc_t ek8, ifc_t hk8, ifc_t ek9, ifc_t hk9, ifc_t hN, ifc_t a5924, ifc_t a5926, ifc_f c_37_5927, ifc_t c_84_5944, ifc_t (q := Wi x2 0 6 ∨ Wi x2 10 14) (Or.inl a5926), a5929, ifc_f (q := (3 : Int32) < 0) (by decide), ifc_t (q := UNl (3 : Int32).toNatClampNeg x2) (show UNl 3 x2 from Or.inl (c_84_5944.symm))]; rfl))) rfl gX12_taken_6.2.2
          · refine lv_iload_n hx hb gX12_taken_4.2.2.2.2.2.2.2.2.2 rfl (lv_at0 hl) ?_
            refine pS hC hK hl (m_above3 l G) si_X12_348 rfl rfl (Nat.le_of_ble_eq_true rfl) rm_4_1_1 ⟨by first | exact Nat.le_of_ble_eq_true rfl | exact Nat.zero_le _, by first | exact Nat.le_of_ble_eq_true rfl | exact Nat.zero_le _⟩ gX12_taken_5.1 (Keqr ?_)
            refine lv_istore_n (lv' := [(3, .int 1), (0, .ref h0), (1, .int (nI jt)), (2, .int x2)]) hx hb gX12_taken_5.2.1 rfl hl (by decide) rfl (fun ls hl => ?_)
            refine lv_goto (tgt := 78) hx hb gX12_taken_5.2.2.1 (by decide) ?_
            refine lv_iload_n hx hb gX12_taken_4.2.2.2.2.1 rfl (lv_at0 hl) ?_
            refine lv_if_lt (tgt := 95) hx hb gX12_taken_4.2.2.2.2.2.1 (by decide) (fun c9 => absurd c9 (by decide)) (fun _ => ?_)
            refine lv_iload_n hx hb gX12_taken_4.2.2.2.2.2.2.1 rfl (lv_at0 hl) ?_
            refine lv_iload_n hx hb gX12_taken_4.2.2.2.2.2.2.2.1 rfl (lv_at3 hl) ?_
            refine lv_icmp_eq (tgt := 95) hx hb gX12_taken_4.2.2.2.2.2.2.2.2.1 (by decide) (fun c_84_5947 => ?_) (fun c_84_5947 => ?_)
            · refine lv_iload_n hx hb gX12_taken_5.2.2.2.1 rfl (lv_at0 hl) ?_
              refine lv_iload_n hx hb gX12_taken_5.2.2.2.2.1 rfl (lv_at3 hl) ?_
              refine lv_icmp_ne (tgt := 109) hx hb gX12_taken_5.2.2.2.2.2.1 (by decide) (fun c9 => absurd (c_84_5947) c9) (fun _ => ?_)
              refine lv_aload_n hx hb gX12_taken_5.2.2.2.2.2.2.1 rfl (lv_at1 hl) ?_
              refine gf_X12_75 hC rfl hK hP 0 rfl rfl gX12_taken_5.2.2.2.2.2.2.2.1 ?_
              refine lv_iload_n hx hb gX12_taken_5.2.2.2.2.2.2.2.2.1 rfl (lv_at2 hl) ?_
              refine aldN hC hK hP 3 rfl (k := jt) (by omega) (Nat.le_of_ble_eq_true rfl) (v := fnsf jt) rfl gX12_taken_5.2.2.2.2.2.2.2.2.2 ?_
              refine lv_goto (tgt := 111) hx hb gX12_taken_6.1 (by decide) ?_
              refine toQ hQ0 ?_
              exact RP (v := fnsf jt) hC ((by first | rfl | (simp only [nI_clamp (n := jt) (by omega), ifc_t ekq, ifc_t hkq, ifc_t ek8, ifc_t hk8, ifc_t ek9, ifc_t hk9, ifc_t hN, ifc_t a5924, ifc_t a5926, ifc_f c_37_5927, ifc_f c_84_5944, ifc_t c_84_5947, ifc_t (q := Wi x2 0 6 ∨ Wi x2 10 14) (Or.inl a5926), a5929, ifc_f (q := (3 : Int32) < 0) (by decide), ifc_t (q := UNl (3 : Int32).toNatClampNeg x2) (show UNl 3 x2 from Or.inr (Or.inl (c_84_5947.symm)))]; done) | (simp only [nI_clamp (n := jt) (by omega), ifc_t ekq, ifc_t hkq, ifc_t ek8, ifc_t hk8, ifc_t ek9, ifc_t hk9, ifc_t hN, ifc_t a5924, ifc_t a5926, ifc_f c_37_5927, ifc_f c_84_5944, ifc_t c_84_5947, ifc_t (q := Wi x2 0 6 ∨ Wi x2 10 14) (Or.inl a5926), a5929, ifc_f (q := (3 : Int32) < 0) (by decide), ifc_t (q := UNl (3 : Int32).toNatClampNeg x2) (show UNl 3 x2 from Or.inr (Or.inl (c_84_5947.symm)))]; rfl))) rfl gX12_taken_6.2.2
            · refine lv_iload_n hx hb gX12_taken_4.2.2.2.2.2.2.2.2.2 rfl (lv_at0 hl) ?_
              refine pS hC hK hl (m_above1 l G) si_X12_348 rfl rfl (Nat.le_of_ble_eq_true rfl) rm_4_1_1 ⟨by first | exact Nat.le_of_ble_eq_true rfl | exact Nat.zero_le _, by first | exact Nat.le_of_ble_eq_true rfl | exact Nat.zero_le _⟩ gX12_taken_5.1 (Keqr ?_)
              refine lv_istore_n (lv' := [(3, .int 0), (0, .ref h0), (1, .int (nI jt)), (2, .int x2)]) hx hb gX12_taken_5.2.1 rfl hl (by decide) rfl (fun ls hl => ?_)
              refine lv_goto (tgt := 78) hx hb gX12_taken_5.2.2.1 (by decide) ?_
              refine lv_iload_n hx hb gX12_taken_4.2.2.2.2.1 rfl (lv_at0 hl) ?_
              refine lv_if_lt (tgt := 95) hx hb gX12_taken_4.2.2.2.2.2.1 (by decide) (fun c9 => absurd c9 (by decide)) (fun _ => ?_)
              refine lv_iload_n hx hb gX12_taken_4.2.2.2.2.2.2.1 rfl (lv_at0 hl) ?_
              refine lv_iload_n hx hb gX12_taken_4.2.2.2.2.2.2.2.1 rfl (lv_at3 hl) ?_
              refine lv_icmp_eq (tgt := 95) hx hb gX12_taken_4.2.2.2.2.2.2.2.2.1 (by decide) (fun c_84_5950 => ?_) (fun c_84_5950 => ?_)
              · refine lv_iload_n hx hb gX12_taken_5.2.2.2.1 rfl (lv_at0 hl) ?_
                refine lv_iload_n hx hb gX12_taken_5.2.2.2.2.1 rfl (lv_at3 hl) ?_
                refine lv_icmp_ne (tgt := 109) hx hb gX12_taken_5.2.2.2.2.2.1 (by decide) (fun c9 => absurd (c_84_5950) c9) (fun _ => ?_)
                refine lv_aload_n hx hb gX12_taken_5.2.2.2.2.2.2.1 rfl (lv_at1 hl) ?_
                refine gf_X12_75 hC rfl hK hP 0 rfl rfl gX12_taken_5.2.2.2.2.2.2.2.1 ?_
                refine lv_iload_n hx hb gX12_taken_5.2.2.2.2.2.2.2.2.1 rfl (lv_at2 hl) ?_
                refine aldN hC hK hP 3 rfl (k := jt) (by omega) (Nat.le_of_ble_eq_true rfl) (v := fnsf jt) rfl gX12_taken_5.2.2.2.2.2.2.2.2.2 ?_
                refine lv_goto (tgt := 111) hx hb gX12_taken_6.1 (by decide) ?_
                refine toQ hQ0 ?_
                exact RP (v := fnsf jt) hC ((by first | rfl | (simp only [nI_clamp (n := jt) (by omega), ifc_t ekq, ifc_t hkq, ifc_t ek8, ifc_t hk8, ifc_t ek9, ifc_t hk9, ifc_t hN, ifc_t a5924, ifc_t a5926, ifc_f c_37_5927, ifc_f c_84_5944, ifc_f c_84_5947, ifc_t c_84_5950, ifc_t (q := Wi x2 0 6 ∨ Wi x2 10 14) (Or.inl a5926), a5929, ifc_f (q := (3 : Int32) < 0) (by decide), ifc_t (q := UNl (3 : Int32).toNatClampNeg x2) (show UNl 3 x2 from Or.inr (Or.inr (c_84_5950.symm)))]; done) | (simp only [nI_clamp (n := jt) (by omega), ifc_t ekq, ifc_t hkq, ifc_t ek8, ifc_t hk8, ifc_t ek9, ifc_t hk9, ifc_t hN, ifc_t a5924, ifc_t a5926, ifc_f c_37_5927, ifc_f c_84_5944, ifc_f c_84_5947, ifc_t c_84_5950, ifc_t (q := Wi x2 0 6 ∨ Wi x2 10 14) (Or.inl a5926), a5929, ifc_f (q := (3 : Int32) < 0) (by decide), ifc_t (q := UNl (3 : Int32).toNatClampNeg x2) (show UNl 3 x2 from Or.inr (Or.inr (c_84_5950.symm)))]; rfl))) rfl gX12_taken_6.2.2
              · refine lv_iload_n hx hb gX12_taken_4.2.2.2.2.2.2.2.2.2 rfl (lv_at0 hl) ?_
                refine pS hC hK hl (m_above0 l G) si_X12_348 rfl rfl (Nat.le_of_ble_eq_true rfl) rm_4_1_1 ⟨by first | exact Nat.le_of_ble_eq_true rfl | exact Nat.zero_le _, by first | exact Nat.le_of_ble_eq_true rfl | exact Nat.zero_le _⟩ gX12_taken_5.1 (Keqr ?_)
                refine lv_istore_n (lv' := [(3, .int (-1)), (0, .ref h0), (1, .int (nI jt)), (2, .int x2)]) hx hb gX12_taken_5.2.1 rfl hl (by decide) rfl (fun ls hl => ?_)
                refine lv_goto (tgt := 78) hx hb gX12_taken_5.2.2.1 (by decide) ?_
                refine lv_iload_n hx hb gX12_taken_4.2.2.2.2.1 rfl (lv_at0 hl) ?_
                refine lv_if_lt (tgt := 95) hx hb gX12_taken_4.2.2.2.2.2.1 (by decide) (fun _ => ?_) (fun c9 => absurd (by decide) c9)
                refine lv_iload_n hx hb gX12_taken_5.2.2.2.1 rfl (lv_at0 hl) ?_
                refine lv_iload_n hx hb gX12_taken_5.2.2.2.2.1 rfl (lv_at3 hl) ?_
                refine lv_icmp_ne (tgt := 109) hx hb gX12_taken_5.2.2.2.2.2.1 (by decide) (fun c_97_5953 => ?_) (fun c_97_5953 => ?_)
                · refine lv_bipush (v := (-13)) hx hb gX12_taken_6.2.1 (by decide) ?_
                  refine toQ hQ0 ?_
                  exact RP (v := (-13)) hC ((by first | rfl | (simp only [nI_clamp (n := jt) (by omega), ifc_t ekq, ifc_t hkq, ifc_t ek8, ifc_t hk8, ifc_t ek9, ifc_t hk9, ifc_t hN, ifc_t a5924, ifc_t a5926, ifc_f c_37_5927, ifc_f c_84_5944, ifc_f c_84_5947, ifc_f c_84_5950, ifc_f c_97_5953, ifc_t (q := Wi x2 0 6 ∨ Wi x2 10 14) (Or.inl a5926), a5929, ifc_f (q := (3 : Int32) < 0) (by decide), ifc_f (q := UNl (3 : Int32).toNatClampNeg x2) (fun h9 => (show False from by have h7 : x2 = 3 ∨ x2 = 1 ∨ x2 = 0 := h9; rcases h7 with h8 | h8 | h8 <;> (first | exact c_84_5944 h8.symm | exact c_84_5947 h8.symm | exact c_84_5950 h8.symm)))]; done) | (simp only [nI_clamp (n := jt) (by omega), ifc_t ekq, ifc_t hkq, ifc_t ek8, ifc_t hk8, ifc_t ek9, ifc_t hk9, ifc_t hN, ifc_t a5924, ifc_t a5926, ifc_f c_37_5927, ifc_f c_84_5944, ifc_f c_84_5947, ifc_f c_84_5950, ifc_f c_97_5953, ifc_t (q := Wi x2 0 6 ∨ Wi x2 10 14) (Or.inl a5926), a5929, ifc_f (q := (3 : Int32) < 0) (by decide), ifc_f (q := UNl (3 : Int32).toNatClampNeg x2) (fun h9 => (show False from by have h7 : x2 = 3 ∨ x2 = 1 ∨ x2 = 0 := h9; rcases h7 with h8 | h8 | h8 <;> (first | exact c_84_5944 h8.symm | exact c_84_5947 h8.symm | exact c_84_5950 h8.symm)))]; rfl))) rfl gX12_taken_6.2.2
                · refine lv_aload_n hx hb gX12_taken_5.2.2.2.2.2.2.1 rfl (lv_at1 hl) ?_
                  refine gf_X12_75 hC rfl hK hP 0 rfl rfl gX12_taken_5.2.2.2.2.2.2.2.1 ?_
                  refine lv_iload_n hx hb gX12_taken_5.2.2.2.2.2.2.2.2.1 rfl (lv_at2 hl) ?_
                  refine aldN hC hK hP 3 rfl (k := jt) (by omega) (Nat.le_of_ble_eq_true rfl) (v := fnsf jt) rfl gX12_taken_5.2.2.2.2.2.2.2.2.2 ?_
                  refine lv_goto (tgt := 111) hx hb gX12_taken_6.1 (by decide) ?_
                  refine toQ hQ0 ?_
                  exact RP (v := fnsf jt) hC ((absurd a5926 (by rw [← c_97_5953]; unfold Wi; decide))) rfl gX12_taken_6.2.2
        · refine lv_istore_n (lv' := [(3, .int 4), (0, .ref h0), (1, .int (nI jt)), (2, .int x2)]) hx hb gX12_taken_3.2.2.2.2.2.2.2.2.2 rfl hl (by decide) rfl (fun ls hl => ?_)
          refine lv_iload_n hx hb gX12_taken_4.1 rfl (lv_at0 hl) ?_
          refine lv_if_ge (tgt := 78) hx hb gX12_taken_4.2.1 (by decide) (fun _ => ?_) (fun c9 => absurd (by decide) c9)
          refine lv_iload_n hx hb gX12_taken_4.2.2.2.2.1 rfl (lv_at0 hl) ?_
          refine lv_if_lt (tgt := 95) hx hb gX12_taken_4.2.2.2.2.2.1 (by decide) (fun c9 => absurd c9 (by decide)) (fun _ => ?_)
          refine lv_iload_n hx hb gX12_taken_4.2.2.2.2.2.2.1 rfl (lv_at0 hl) ?_
          refine lv_iload_n hx hb gX12_taken_4.2.2.2.2.2.2.2.1 rfl (lv_at3 hl) ?_
          refine lv_icmp_eq (tgt := 95) hx hb gX12_taken_4.2.2.2.2.2.2.2.2.1 (by decide) (fun c_84_5954 => ?_) (fun c_84_5954 => ?_)
          · refine lv_iload_n hx hb gX12_taken_5.2.2.2.1 rfl (lv_at0 hl) ?_
            refine lv_iload_n hx hb gX12_taken_5.2.2.2.2.1 rfl (lv_at3 hl) ?_
            refine lv_icmp_ne (tgt := 109) hx hb gX12_taken_5.2.2.2.2.2.1 (by decide) (fun c9 => absurd (c_84_5954) c9) (fun _ => ?_)
            refine lv_aload_n hx hb gX12_taken_5.2.2.2.2.2.2.1 rfl (lv_at1 hl) ?_
            refine gf_X12_75 hC rfl hK hP 0 rfl rfl gX12_taken_5.2.2.2.2.2.2.2.1 ?_
            refine lv_iload_n hx hb gX12_taken_5.2.2.2.2.2.2.2.2.1 rfl (lv_at2 hl) ?_
            refine aldN hC hK hP 3 rfl (k := jt) (by omega) (Nat.le_of_ble_eq_true rfl) (v := fnsf jt) rfl gX12_taken_5.2.2.2.2.2.2.2.2.2 ?_
            refine lv_goto (tgt := 111) hx hb gX12_taken_6.1 (by decide) ?_
            refine toQ hQ0 ?_
            exact RP (v := fnsf jt) hC ((by first | rfl | (simp only [nI_clamp (n := jt) (by omega), ifc_t ekq, ifc_t hkq, ifc_t ek8, ifc_t hk8, ifc_t ek9, ifc_t hk9, ifc_t hN, ifc_t a5924, ifc_t a5926, ifc_f c_37_5927, ifc_t c_84_5954, ifc_t (q := Wi x2 0 6 ∨ Wi x2 10 14) (Or.inl a5926), a5929, ifc_f (q := (4 : Int32) < 0) (by decide), ifc_t (q := UNl (4 : Int32).toNatClampNeg x2) (show UNl 4 x2 from Or.inl (c_84_5954.symm))]; done) | (simp only [nI_clamp (n := jt) (by omega), ifc_t ekq, ifc_t hkq, ifc_t ek8, ifc_t hk8, ifc_t ek9, ifc_t hk9, ifc_t hN, ifc_t a5924, ifc_t a5926, ifc_f c_37_5927, ifc_t c_84_5954, ifc_t (q := Wi x2 0 6 ∨ Wi x2 10 14) (Or.inl a5926), a5929, ifc_f (q := (4 : Int32) < 0) (by decide), ifc_t (q := UNl (4 : Int32).toNatClampNeg x2) (show UNl 4 x2 from Or.inl (c_84_5954.symm))]; rfl))) rfl gX12_taken_6.2.2
          · refine lv_iload_n hx hb gX12_taken_4.2.2.2.2.2.2.2.2.2 rfl (lv_at0 hl) ?_
            refine pS hC hK hl (m_above4 l G) si_X12_348 rfl rfl (Nat.le_of_ble_eq_true rfl) rm_4_1_1 ⟨by first | exact Nat.le_of_ble_eq_true rfl | exact Nat.zero_le _, by first | exact Nat.le_of_ble_eq_true rfl | exact Nat.zero_le _⟩ gX12_taken_5.1 (Keqr ?_)
            refine lv_istore_n (lv' := [(3, .int 0), (0, .ref h0), (1, .int (nI jt)), (2, .int x2)]) hx hb gX12_taken_5.2.1 rfl hl (by decide) rfl (fun ls hl => ?_)
            refine lv_goto (tgt := 78) hx hb gX12_taken_5.2.2.1 (by decide) ?_
            refine lv_iload_n hx hb gX12_taken_4.2.2.2.2.1 rfl (lv_at0 hl) ?_
            refine lv_if_lt (tgt := 95) hx hb gX12_taken_4.2.2.2.2.2.1 (by decide) (fun c9 => absurd c9 (by decide)) (fun _ => ?_)
            refine lv_iload_n hx hb gX12_taken_4.2.2.2.2.2.2.1 rfl (lv_at0 hl) ?_
            refine lv_iload_n hx hb gX12_taken_4.2.2.2.2.2.2.2.1 rfl (lv_at3 hl) ?_
            refine lv_icmp_eq (tgt := 95) hx hb gX12_taken_4.2.2.2.2.2.2.2.2.1 (by decide) (fun c_84_5957 => ?_) (fun c_84_5957 => ?_)
            · refine lv_iload_n hx hb gX12_taken_5.2.2.2.1 rfl (lv_at0 hl) ?_
              refine lv_iload_n hx hb gX12_taken_5.2.2.2.2.1 rfl (lv_at3 hl) ?_
              refine lv_icmp_ne (tgt := 109) hx hb gX12_taken_5.2.2.2.2.2.1 (by decide) (fun c9 => absurd (c_84_5957) c9) (fun _ => ?_)
              refine lv_aload_n hx hb gX12_taken_5.2.2.2.2.2.2.1 rfl (lv_at1 hl) ?_
              refine gf_X12_75 hC rfl hK hP 0 rfl rfl gX12_taken_5.2.2.2.2.2.2.2.1 ?_
              refine lv_iload_n hx hb gX12_taken_5.2.2.2.2.2.2.2.2.1 rfl (lv_at2 hl) ?_
              refine aldN hC hK hP 3 rfl (k := jt) (by omega) (Nat.le_of_ble_eq_true rfl) (v := fnsf jt) rfl gX12_taken_5.2.2.2.2.2.2.2.2.2 ?_
              refine lv_goto (tgt := 111) hx hb gX12_taken_6.1 (by decide) ?_
              refine toQ hQ0 ?_
              exact RP (v := fnsf jt) hC ((by first | rfl | (simp only [nI_clamp (n := jt) (by omega), ifc_t ekq, ifc_t hkq, ifc_t ek8, ifc_t hk8, ifc_t ek9, ifc_t hk9, ifc_t hN, ifc_t a5924, ifc_t a5926, ifc_f c_37_5927, ifc_f c_84_5954, ifc_t c_84_5957, ifc_t (q := Wi x2 0 6 ∨ Wi x2 10 14) (Or.inl a5926), a5929, ifc_f (q := (4 : Int32) < 0) (by decide), ifc_t (q := UNl (4 : Int32).toNatClampNeg x2) (show UNl 4 x2 from Or.inr (c_84_5957.symm))]; done) | (simp only [nI_clamp (n := jt) (by omega), ifc_t ekq, ifc_t hkq, ifc_t ek8, ifc_t hk8, ifc_t ek9, ifc_t hk9, ifc_t hN, ifc_t a5924, ifc_t a5926, ifc_f c_37_5927, ifc_f c_84_5954, ifc_t c_84_5957, ifc_t (q := Wi x2 0 6 ∨ Wi x2 10 14) (Or.inl a5926), a5929, ifc_f (q := (4 : Int32) < 0) (by decide), ifc_t (q := UNl (4 : Int32).toNatClampNeg x2) (show UNl 4 x2 from Or.inr (c_84_5957.symm))]; rfl))) rfl gX12_taken_6.2.2
            · refine lv_iload_n hx hb gX12_taken_4.2.2.2.2.2.2.2.2.2 rfl (lv_at0 hl) ?_
              refine pS hC hK hl (m_above0 l G) si_X12_348 rfl rfl (Nat.le_of_ble_eq_true rfl) rm_4_1_1 ⟨by first | exact Nat.le_of_ble_eq_true rfl | exact Nat.zero_le _, by first | exact Nat.le_of_ble_eq_true rfl | exact Nat.zero_le _⟩ gX12_taken_5.1 (Keqr ?_)
              refine lv_istore_n (lv' := [(3, .int (-1)), (0, .ref h0), (1, .int (nI jt)), (2, .int x2)]) hx hb gX12_taken_5.2.1 rfl hl (by decide) rfl (fun ls hl => ?_)
              refine lv_goto (tgt := 78) hx hb gX12_taken_5.2.2.1 (by decide) ?_
              refine lv_iload_n hx hb gX12_taken_4.2.2.2.2.1 rfl (lv_at0 hl) ?_
              refine lv_if_lt (tgt := 95) hx hb gX12_taken_4.2.2.2.2.2.1 (by decide) (fun _ => ?_) (fun c9 => absurd (by decide) c9)
              refine lv_iload_n hx hb gX12_taken_5.2.2.2.1 rfl (lv_at0 hl) ?_
              refine lv_iload_n hx hb gX12_taken_5.2.2.2.2.1 rfl (lv_at3 hl) ?_
              refine lv_icmp_ne (tgt := 109) hx hb gX12_taken_5.2.2.2.2.2.1 (by decide) (fun c_97_5960 => ?_) (fun c_97_5960 => ?_)
              · refine lv_bipush (v := (-13)) hx hb gX12_taken_6.2.1 (by decide) ?_
                refine toQ hQ0 ?_
                exact RP (v := (-13)) hC ((by first | rfl | (simp only [nI_clamp (n := jt) (by omega), ifc_t ekq, ifc_t hkq, ifc_t ek8, ifc_t hk8, ifc_t ek9, ifc_t hk9, ifc_t hN, ifc_t a5924, ifc_t a5926, ifc_f c_37_5927, ifc_f c_84_5954, ifc_f c_84_5957, ifc_f c_97_5960, ifc_t (q := Wi x2 0 6 ∨ Wi x2 10 14) (Or.inl a5926), a5929, ifc_f (q := (4 : Int32) < 0) (by decide), ifc_f (q := UNl (4 : Int32).toNatClampNeg x2) (fun h9 => (show False from by have h7 : x2 = 4 ∨ x2 = 0 := h9; rcases h7 with h8 | h8 <;> (first | exact c_84_5954 h8.symm | exact c_84_5957 h8.symm)))]; done) | (simp only [nI_clamp (n := jt) (by omega), ifc_t ekq, ifc_t hkq, ifc_t ek8, ifc_t hk8, ifc_t ek9, ifc_t hk9, ifc_t hN, ifc_t a5924, ifc_t a5926, ifc_f c_37_5927, ifc_f c_84_5954, ifc_f c_84_5957, ifc_f c_97_5960, ifc_t (q := Wi x2 0 6 ∨ Wi x2 10 14) (Or.inl a5926), a5929, ifc_f (q := (4 : Int32) < 0) (by decide), ifc_f (q := UNl (4 : Int32).toNatClampNeg x2) (fun h9 => (show False from by have h7 : x2 = 4 ∨ x2 = 0 := h9; rcases h7 with h8 | h8 <;> (first | exact c_84_5954 h8.symm | exact c_84_5957 h8.symm)))]; rfl))) rfl gX12_taken_6.2.2
              · refine lv_aload_n hx hb gX12_taken_5.2.2.2.2.2.2.1 rfl (lv_at1 hl) ?_
                refine gf_X12_75 hC rfl hK hP 0 rfl rfl gX12_taken_5.2.2.2.2.2.2.2.1 ?_
                refine lv_iload_n hx hb gX12_taken_5.2.2.2.2.2.2.2.2.1 rfl (lv_at2 hl) ?_
                refine aldN hC hK hP 3 rfl (k := jt) (by omega) (Nat.le_of_ble_eq_true rfl) (v := fnsf jt) rfl gX12_taken_5.2.2.2.2.2.2.2.2.2 ?_
                refine lv_goto (tgt := 111) hx hb gX12_taken_6.1 (by decide) ?_
                refine toQ hQ0 ?_
                exact RP (v := fnsf jt) hC ((absurd a5926 (by rw [← c_97_5960]; unfold Wi; decide))) rfl gX12_taken_6.2.2
        · refine lv_istore_n (lv' := [(3, .int 5), (0, .ref h0), (1, .int (nI jt)), (2, .int x2)]) hx hb gX12_taken_3.2.2.2.2.2.2.2.2.2 rfl hl (by decide) rfl (fun ls hl => ?_)
          refine lv_iload_n hx hb gX12_taken_4.1 rfl (lv_at0 hl) ?_
          refine lv_if_ge (tgt := 78) hx hb gX12_taken_4.2.1 (by decide) (fun _ => ?_) (fun c9 => absurd (by decide) c9)
          refine lv_iload_n hx hb gX12_taken_4.2.2.2.2.1 rfl (lv_at0 hl) ?_
          refine lv_if_lt (tgt := 95) hx hb gX12_taken_4.2.2.2.2.2.1 (by decide) (fun c9 => absurd c9 (by decide)) (fun _ => ?_)
          refine lv_iload_n hx hb gX12_taken_4.2.2.2.2.2.2.1 rfl (lv_at0 hl) ?_
          refine lv_iload_n hx hb gX12_taken_4.2.2.2.2.2.2.2.1 rfl (lv_at3 hl) ?_
          refine lv_icmp_eq (tgt := 95) hx hb gX12_taken_4.2.2.2.2.2.2.2.2.1 (by decide) (fun c_84_5961 => ?_) (fun c_84_5961 => ?_)
          · refine lv_iload_n hx hb gX12_taken_5.2.2.2.1 rfl (lv_at0 hl) ?_
            refine lv_iload_n hx hb gX12_taken_5.2.2.2.2.1 rfl (lv_at3 hl) ?_
            refine lv_icmp_ne (tgt := 109) hx hb gX12_taken_5.2.2.2.2.2.1 (by decide) (fun c9 => absurd (c_84_5961) c9) (fun _ => ?_)
            refine lv_aload_n hx hb gX12_taken_5.2.2.2.2.2.2.1 rfl (lv_at1 hl) ?_
            refine gf_X12_75 hC rfl hK hP 0 rfl rfl gX12_taken_5.2.2.2.2.2.2.2.1 ?_
            refine lv_iload_n hx hb gX12_taken_5.2.2.2.2.2.2.2.2.1 rfl (lv_at2 hl) ?_
            refine aldN hC hK hP 3 rfl (k := jt) (by omega) (Nat.le_of_ble_eq_true rfl) (v := fnsf jt) rfl gX12_taken_5.2.2.2.2.2.2.2.2.2 ?_
            refine lv_goto (tgt := 111) hx hb gX12_taken_6.1 (by decide) ?_
            refine toQ hQ0 ?_
            exact RP (v := fnsf jt) hC ((by first | rfl | (simp only [nI_clamp (n := jt) (by omega), ifc_t ekq, ifc_t hkq, ifc_t ek8, ifc_t hk8, ifc_t ek9, ifc_t hk9, ifc_t hN, ifc_t a5924, ifc_t a5926, ifc_f c_37_5927, ifc_t c_84_5961, ifc_t (q := Wi x2 0 6 ∨ Wi x2 10 14) (Or.inl a5926), a5929, ifc_f (q := (5 : Int32) < 0) (by decide), ifc_t (q := UNl (5 : Int32).toNatClampNeg x2) (show UNl 5 x2 from Or.inl (c_84_5961.symm))]; done) | (simp only [nI_clamp (n := jt) (by omega), ifc_t ekq, ifc_t hkq, ifc_t ek8, ifc_t hk8, ifc_t ek9, ifc_t hk9, ifc_t hN, ifc_t a5924, ifc_t a5926, ifc_f c_37_5927, ifc_t c_84_5961, ifc_t (q := Wi x2 0 6 ∨ Wi x2 10 14) (Or.inl a5926), a5929, ifc_f (q := (5 : Int32) < 0) (by decide), ifc_t (q := UNl (5 : Int32).toNatClampNeg x2) (show UNl 5 x2 from Or.inl (c_84_5961.symm))]; rfl))) rfl gX12_taken_6.2.2
          · refine lv_iload_n hx hb gX12_taken_4.2.2.2.2.2.2.2.2.2 rfl (lv_at0 hl) ?_
            refine pS hC hK hl (m_above5 l G) si_X12_348 rfl rfl (Nat.le_of_ble_eq_true rfl) rm_4_1_1 ⟨by first | exact Nat.le_of_ble_eq_true rfl | exact Nat.zero_le _, by first | exact Nat.le_of_ble_eq_true rfl | exact Nat.zero_le _⟩ gX12_taken_5.1 (Keqr ?_)
            refine lv_istore_n (lv' := [(3, .int 4), (0, .ref h0), (1, .int (nI jt)), (2, .int x2)]) hx hb gX12_taken_5.2.1 rfl hl (by decide) rfl (fun ls hl => ?_)
            refine lv_goto (tgt := 78) hx hb gX12_taken_5.2.2.1 (by decide) ?_
            refine lv_iload_n hx hb gX12_taken_4.2.2.2.2.1 rfl (lv_at0 hl) ?_
            refine lv_if_lt (tgt := 95) hx hb gX12_taken_4.2.2.2.2.2.1 (by decide) (fun c9 => absurd c9 (by decide)) (fun _ => ?_)
            refine lv_iload_n hx hb gX12_taken_4.2.2.2.2.2.2.1 rfl (lv_at0 hl) ?_
            refine lv_iload_n hx hb gX12_taken_4.2.2.2.2.2.2.2.1 rfl (lv_at3 hl) ?_
            refine lv_icmp_eq (tgt := 95) hx hb gX12_taken_4.2.2.2.2.2.2.2.2.1 (by decide) (fun c_84_5964 => ?_) (fun c_84_5964 => ?_)
            · refine lv_iload_n hx hb gX12_taken_5.2.2.2.1 rfl (lv_at0 hl) ?_
              refine lv_iload_n hx hb gX12_taken_5.2.2.2.2.1 rfl (lv_at3 hl) ?_
              refine lv_icmp_ne (tgt := 109) hx hb gX12_taken_5.2.2.2.2.2.1 (by decide) (fun c9 => absurd (c_84_5964) c9) (fun _ => ?_)
              refine lv_aload_n hx hb gX12_taken_5.2.2.2.2.2.2.1 rfl (lv_at1 hl) ?_
              refine gf_X12_75 hC rfl hK hP 0 rfl rfl gX12_taken_5.2.2.2.2.2.2.2.1 ?_
              refine lv_iload_n hx hb gX12_taken_5.2.2.2.2.2.2.2.2.1 rfl (lv_at2 hl) ?_
              refine aldN hC hK hP 3 rfl (k := jt) (by omega) (Nat.le_of_ble_eq_true rfl) (v := fnsf jt) rfl gX12_taken_5.2.2.2.2.2.2.2.2.2 ?_
              refine lv_goto (tgt := 111) hx hb gX12_taken_6.1 (by decide) ?_
              refine toQ hQ0 ?_
              exact RP (v := fnsf jt) hC ((by first | rfl | (simp only [nI_clamp (n := jt) (by omega), ifc_t ekq, ifc_t hkq, ifc_t ek8, ifc_t hk8, ifc_t ek9, ifc_t hk9, ifc_t hN, ifc_t a5924, ifc_t a5926, ifc_f c_37_5927, ifc_f c_84_5961, ifc_t c_84_5964, ifc_t (q := Wi x2 0 6 ∨ Wi x2 10 14) (Or.inl a5926), a5929, ifc_f (q := (5 : Int32) < 0) (by decide), ifc_t (q := UNl (5 : Int32).toNatClampNeg x2) (show UNl 5 x2 from Or.inr (Or.inl (c_84_5964.symm)))]; done) | (simp only [nI_clamp (n := jt) (by omega), ifc_t ekq, ifc_t hkq, ifc_t ek8, ifc_t hk8, ifc_t ek9, ifc_t hk9, ifc_t hN, ifc_t a5924, ifc_t a5926, ifc_f c_37_5927, ifc_f c_84_5961, ifc_t c_84_5964, ifc_t (q := Wi x2 0 6 ∨ Wi x2 10 14) (Or.inl a5926), a5929, ifc_f (q := (5 : Int32) < 0) (by decide), ifc_t (q := UNl (5 : Int32).toNatClampNeg x2) (show UNl 5 x2 from Or.inr (Or.inl (c_84_5964.symm)))]; rfl))) rfl gX12_taken_6.2.2
            · refine lv_iload_n hx hb gX12_taken_4.2.2.2.2.2.2.2.2.2 rfl (lv_at0 hl) ?_
              refine pS hC hK hl (m_above4 l G) si_X12_348 rfl rfl (Nat.le_of_ble_eq_true rfl) rm_4_1_1 ⟨by first | exact Nat.le_of_ble_eq_true rfl | exact Nat.zero_le _, by first | exact Nat.le_of_ble_eq_true rfl | exact Nat.zero_le _⟩ gX12_taken_5.1 (Keqr ?_)
              refine lv_istore_n (lv' := [(3, .int 0), (0, .ref h0), (1, .int (nI jt)), (2, .int x2)]) hx hb gX12_taken_5.2.1 rfl hl (by decide) rfl (fun ls hl => ?_)
              refine lv_goto (tgt := 78) hx hb gX12_taken_5.2.2.1 (by decide) ?_
              refine lv_iload_n hx hb gX12_taken_4.2.2.2.2.1 rfl (lv_at0 hl) ?_
              refine lv_if_lt (tgt := 95) hx hb gX12_taken_4.2.2.2.2.2.1 (by decide) (fun c9 => absurd c9 (by decide)) (fun _ => ?_)
              refine lv_iload_n hx hb gX12_taken_4.2.2.2.2.2.2.1 rfl (lv_at0 hl) ?_
              refine lv_iload_n hx hb gX12_taken_4.2.2.2.2.2.2.2.1 rfl (lv_at3 hl) ?_
              refine lv_icmp_eq (tgt := 95) hx hb gX12_taken_4.2.2.2.2.2.2.2.2.1 (by decide) (fun c_84_5967 => ?_) (fun c_84_5967 => ?_)
              · refine lv_iload_n hx hb gX12_taken_5.2.2.2.1 rfl (lv_at0 hl) ?_
                refine lv_iload_n hx hb gX12_taken_5.2.2.2.2.1 rfl (lv_at3 hl) ?_
                refine lv_icmp_ne (tgt := 109) hx hb gX12_taken_5.2.2.2.2.2.1 (by decide) (fun c9 => absurd (c_84_5967) c9) (fun _ => ?_)
                refine lv_aload_n hx hb gX12_taken_5.2.2.2.2.2.2.1 rfl (lv_at1 hl) ?_
                refine gf_X12_75 hC rfl hK hP 0 rfl rfl gX12_taken_5.2.2.2.2.2.2.2.1 ?_
                refine lv_iload_n hx hb gX12_taken_5.2.2.2.2.2.2.2.2.1 rfl (lv_at2 hl) ?_
                refine aldN hC hK hP 3 rfl (k := jt) (by omega) (Nat.le_of_ble_eq_true rfl) (v := fnsf jt) rfl gX12_taken_5.2.2.2.2.2.2.2.2.2 ?_
                refine lv_goto (tgt := 111) hx hb gX12_taken_6.1 (by decide) ?_
                refine toQ hQ0 ?_
                exact RP (v := fnsf jt) hC ((by first | rfl | (simp only [nI_clamp (n := jt) (by omega), ifc_t ekq, ifc_t hkq, ifc_t ek8, ifc_t hk8, ifc_t ek9, ifc_t hk9, ifc_t hN, ifc_t a5924, ifc_t a5926, ifc_f c_37_5927, ifc_f c_84_5961, ifc_f c_84_5964, ifc_t c_84_5967, ifc_t (q := Wi x2 0 6 ∨ Wi x2 10 14) (Or.inl a5926), a5929, ifc_f (q := (5 : Int32) < 0) (by decide), ifc_t (q := UNl (5 : Int32).toNatClampNeg x2) (show UNl 5 x2 from Or.inr (Or.inr (c_84_5967.symm)))]; done) | (simp only [nI_clamp (n := jt) (by omega), ifc_t ekq, ifc_t hkq, ifc_t ek8, ifc_t hk8, ifc_t ek9, ifc_t hk9, ifc_t hN, ifc_t a5924, ifc_t a5926, ifc_f c_37_5927, ifc_f c_84_5961, ifc_f c_84_5964, ifc_t c_84_5967, ifc_t (q := Wi x2 0 6 ∨ Wi x2 10 14) (Or.inl a5926), a5929, ifc_f (q := (5 : Int32) < 0) (by decide), ifc_t (q := UNl (5 : Int32).toNatClampNeg x2) (show UNl 5 x2 from Or.inr (Or.inr (c_84_5967.symm)))]; rfl))) rfl gX12_taken_6.2.2
              · refine lv_iload_n hx hb gX12_taken_4.2.2.2.2.2.2.2.2.2 rfl (lv_at0 hl) ?_
                refine pS hC hK hl (m_above0 l G) si_X12_348 rfl rfl (Nat.le_of_ble_eq_true rfl) rm_4_1_1 ⟨by first | exact Nat.le_of_ble_eq_true rfl | exact Nat.zero_le _, by first | exact Nat.le_of_ble_eq_true rfl | exact Nat.zero_le _⟩ gX12_taken_5.1 (Keqr ?_)
                refine lv_istore_n (lv' := [(3, .int (-1)), (0, .ref h0), (1, .int (nI jt)), (2, .int x2)]) hx hb gX12_taken_5.2.1 rfl hl (by decide) rfl (fun ls hl => ?_)
                refine lv_goto (tgt := 78) hx hb gX12_taken_5.2.2.1 (by decide) ?_
                refine lv_iload_n hx hb gX12_taken_4.2.2.2.2.1 rfl (lv_at0 hl) ?_
                refine lv_if_lt (tgt := 95) hx hb gX12_taken_4.2.2.2.2.2.1 (by decide) (fun _ => ?_) (fun c9 => absurd (by decide) c9)
                refine lv_iload_n hx hb gX12_taken_5.2.2.2.1 rfl (lv_at0 hl) ?_
                refine lv_iload_n hx hb gX12_taken_5.2.2.2.2.1 rfl (lv_at3 hl) ?_
                refine lv_icmp_ne (tgt := 109) hx hb gX12_taken_5.2.2.2.2.2.1 (by decide) (fun c_97_5970 => ?_) (fun c_97_5970 => ?_)
                · refine lv_bipush (v := (-13)) hx hb gX12_taken_6.2.1 (by decide) ?_
                  refine toQ hQ0 ?_
                  exact RP (v := (-13)) hC ((by first | rfl | (simp only [nI_clamp (n := jt) (by omega), ifc_t ekq, ifc_t hkq, ifc_t ek8, ifc_t hk8, ifc_t ek9, ifc_t hk9, ifc_t hN, ifc_t a5924, ifc_t a5926, ifc_f c_37_5927, ifc_f c_84_5961, ifc_f c_84_5964, ifc_f c_84_5967, ifc_f c_97_5970, ifc_t (q := Wi x2 0 6 ∨ Wi x2 10 14) (Or.inl a5926), a5929, ifc_f (q := (5 : Int32) < 0) (by decide), ifc_f (q := UNl (5 : Int32).toNatClampNeg x2) (fun h9 => (show False from by have h7 : x2 = 5 ∨ x2 = 4 ∨ x2 = 0 := h9; rcases h7 with h8 | h8 | h8 <;> (first | exact c_84_5961 h8.symm | exact c_84_5964 h8.symm | exact c_84_5967 h8.symm)))]; done) | (simp only [nI_clamp (n := jt) (by omega), ifc_t ekq, ifc_t hkq, ifc_t ek8, ifc_t hk8, ifc_t ek9, ifc_t hk9, ifc_t hN, ifc_t a5924, ifc_t a5926, ifc_f c_37_5927, ifc_f c_84_5961, ifc_f c_84_5964, ifc_f c_84_5967, ifc_f c_97_5970, ifc_t (q := Wi x2 0 6 ∨ Wi x2 10 14) (Or.inl a5926), a5929, ifc_f (q := (5 : Int32) < 0) (by decide), ifc_f (q := UNl (5 : Int32).toNatClampNeg x2) (fun h9 => (show False from by have h7 : x2 = 5 ∨ x2 = 4 ∨ x2 = 0 := h9; rcases h7 with h8 | h8 | h8 <;> (first | exact c_84_5961 h8.symm | exact c_84_5964 h8.symm | exact c_84_5967 h8.symm)))]; rfl))) rfl gX12_taken_6.2.2
                · refine lv_aload_n hx hb gX12_taken_5.2.2.2.2.2.2.1 rfl (lv_at1 hl) ?_
                  refine gf_X12_75 hC rfl hK hP 0 rfl rfl gX12_taken_5.2.2.2.2.2.2.2.1 ?_
                  refine lv_iload_n hx hb gX12_taken_5.2.2.2.2.2.2.2.2.1 rfl (lv_at2 hl) ?_
                  refine aldN hC hK hP 3 rfl (k := jt) (by omega) (Nat.le_of_ble_eq_true rfl) (v := fnsf jt) rfl gX12_taken_5.2.2.2.2.2.2.2.2.2 ?_
                  refine lv_goto (tgt := 111) hx hb gX12_taken_6.1 (by decide) ?_
                  refine toQ hQ0 ?_
                  exact RP (v := fnsf jt) hC ((absurd a5926 (by rw [← c_97_5970]; unfold Wi; decide))) rfl gX12_taken_6.2.2
        · refine lv_istore_n (lv' := [(3, .int 6), (0, .ref h0), (1, .int (nI jt)), (2, .int x2)]) hx hb gX12_taken_3.2.2.2.2.2.2.2.2.2 rfl hl (by decide) rfl (fun ls hl => ?_)
          refine lv_iload_n hx hb gX12_taken_4.1 rfl (lv_at0 hl) ?_
          refine lv_if_ge (tgt := 78) hx hb gX12_taken_4.2.1 (by decide) (fun _ => ?_) (fun c9 => absurd (by decide) c9)
          refine lv_iload_n hx hb gX12_taken_4.2.2.2.2.1 rfl (lv_at0 hl) ?_
          refine lv_if_lt (tgt := 95) hx hb gX12_taken_4.2.2.2.2.2.1 (by decide) (fun c9 => absurd c9 (by decide)) (fun _ => ?_)
          refine lv_iload_n hx hb gX12_taken_4.2.2.2.2.2.2.1 rfl (lv_at0 hl) ?_
          refine lv_iload_n hx hb gX12_taken_4.2.2.2.2.2.2.2.1 rfl (lv_at3 hl) ?_
          refine lv_icmp_eq (tgt := 95) hx hb gX12_taken_4.2.2.2.2.2.2.2.2.1 (by decide) (fun c_84_5971 => ?_) (fun c_84_5971 => ?_)
          · refine lv_iload_n hx hb gX12_taken_5.2.2.2.1 rfl (lv_at0 hl) ?_
            refine lv_iload_n hx hb gX12_taken_5.2.2.2.2.1 rfl (lv_at3 hl) ?_
            refine lv_icmp_ne (tgt := 109) hx hb gX12_taken_5.2.2.2.2.2.1 (by decide) (fun c9 => absurd (c_84_5971) c9) (fun _ => ?_)
            refine lv_aload_n hx hb gX12_taken_5.2.2.2.2.2.2.1 rfl (lv_at1 hl) ?_
            refine gf_X12_75 hC rfl hK hP 0 rfl rfl gX12_taken_5.2.2.2.2.2.2.2.1 ?_
            refine lv_iload_n hx hb gX12_taken_5.2.2.2.2.2.2.2.2.1 rfl (lv_at2 hl) ?_
            refine aldN hC hK hP 3 rfl (k := jt) (by omega) (Nat.le_of_ble_eq_true rfl) (v := fnsf jt) rfl gX12_taken_5.2.2.2.2.2.2.2.2.2 ?_
            refine lv_goto (tgt := 111) hx hb gX12_taken_6.1 (by decide) ?_
            refine toQ hQ0 ?_
            exact RP (v := fnsf jt) hC ((by first | rfl | (simp only [nI_clamp (n := jt) (by omega), ifc_t ekq, ifc_t hkq, ifc_t ek8, ifc_t hk8, ifc_t ek9, ifc_t hk9, ifc_t hN, ifc_t a5924, ifc_t a5926, ifc_f c_37_5927, ifc_t c_84_5971, ifc_t (q := Wi x2 0 6 ∨ Wi x2 10 14) (Or.inl a5926), a5929, ifc_f (q := (6 : Int32) < 0) (by decide), ifc_t (q := UNl (6 : Int32).toNatClampNeg x2) (show UNl 6 x2 from Or.inl (c_84_5971.symm))]; done) | (simp only [nI_clamp (n := jt) (by omega), ifc_t ekq, ifc_t hkq, ifc_t ek8, ifc_t hk8, ifc_t ek9, ifc_t hk9, ifc_t hN, ifc_t a5924, ifc_t a5926, ifc_f c_37_5927, ifc_t c_84_5971, ifc_t (q := Wi x2 0 6 ∨ Wi x2 10 14) (Or.inl a5926), a5929, ifc_f (q := (6 : Int32) < 0) (by decide), ifc_t (q := UNl (6 : Int32).toNatClampNeg x2) (show UNl 6 x2 from Or.inl (c_84_5971.symm))]; rfl))) rfl gX12_taken_6.2.2
          · refine lv_iload_n hx hb gX12_taken_4.2.2.2.2.2.2.2.2.2 rfl (lv_at0 hl) ?_
            refine pS hC hK hl (m_above6 l G) si_X12_348 rfl rfl (Nat.le_of_ble_eq_true rfl) rm_4_1_1 ⟨by first | exact Nat.le_of_ble_eq_true rfl | exact Nat.zero_le _, by first | exact Nat.le_of_ble_eq_true rfl | exact Nat.zero_le _⟩ gX12_taken_5.1 (Keqr ?_)
            refine lv_istore_n (lv' := [(3, .int 0), (0, .ref h0), (1, .int (nI jt)), (2, .int x2)]) hx hb gX12_taken_5.2.1 rfl hl (by decide) rfl (fun ls hl => ?_)
            refine lv_goto (tgt := 78) hx hb gX12_taken_5.2.2.1 (by decide) ?_
            refine lv_iload_n hx hb gX12_taken_4.2.2.2.2.1 rfl (lv_at0 hl) ?_
            refine lv_if_lt (tgt := 95) hx hb gX12_taken_4.2.2.2.2.2.1 (by decide) (fun c9 => absurd c9 (by decide)) (fun _ => ?_)
            refine lv_iload_n hx hb gX12_taken_4.2.2.2.2.2.2.1 rfl (lv_at0 hl) ?_
            refine lv_iload_n hx hb gX12_taken_4.2.2.2.2.2.2.2.1 rfl (lv_at3 hl) ?_
            refine lv_icmp_eq (tgt := 95) hx hb gX12_taken_4.2.2.2.2.2.2.2.2.1 (by decide) (fun c_84_5974 => ?_) (fun c_84_5974 => ?_)
            · refine lv_iload_n hx hb gX12_taken_5.2.2.2.1 rfl (lv_at0 hl) ?_
              refine lv_iload_n hx hb gX12_taken_5.2.2.2.2.1 rfl (lv_at3 hl) ?_
              refine lv_icmp_ne (tgt := 109) hx hb gX12_taken_5.2.2.2.2.2.1 (by decide) (fun c9 => absurd (c_84_5974) c9) (fun _ => ?_)
              refine lv_aload_n hx hb gX12_taken_5.2.2.2.2.2.2.1 rfl (lv_at1 hl) ?_
              refine gf_X12_75 hC rfl hK hP 0 rfl rfl gX12_taken_5.2.2.2.2.2.2.2.1 ?_
              refine lv_iload_n hx hb gX12_taken_5.2.2.2.2.2.2.2.2.1 rfl (lv_at2 hl) ?_
              refine aldN hC hK hP 3 rfl (k := jt) (by omega) (Nat.le_of_ble_eq_true rfl) (v := fnsf jt) rfl gX12_taken_5.2.2.2.2.2.2.2.2.2 ?_
              refine lv_goto (tgt := 111) hx hb gX12_taken_6.1 (by decide) ?_
              refine toQ hQ0 ?_
              exact RP (v := fnsf jt) hC ((by first | rfl | (simp only [nI_clamp (n := jt) (by omega), ifc_t ekq, ifc_t hkq, ifc_t ek8, ifc_t hk8, ifc_t ek9, ifc_t hk9, ifc_t hN, ifc_t a5924, ifc_t a5926, ifc_f c_37_5927, ifc_f c_84_5971, ifc_t c_84_5974, ifc_t (q := Wi x2 0 6 ∨ Wi x2 10 14) (Or.inl a5926), a5929, ifc_f (q := (6 : Int32) < 0) (by decide), ifc_t (q := UNl (6 : Int32).toNatClampNeg x2) (show UNl 6 x2 from Or.inr (c_84_5974.symm))]; done) | (simp only [nI_clamp (n := jt) (by omega), ifc_t ekq, ifc_t hkq, ifc_t ek8, ifc_t hk8, ifc_t ek9, ifc_t hk9, ifc_t hN, ifc_t a5924, ifc_t a5926, ifc_f c_37_5927, ifc_f c_84_5971, ifc_t c_84_5974, ifc_t (q := Wi x2 0 6 ∨ Wi x2 10 14) (Or.inl a5926), a5929, ifc_f (q := (6 : Int32) < 0) (by decide), ifc_t (q := UNl (6 : Int32).toNatClampNeg x2) (show UNl 6 x2 from Or.inr (c_84_5974.symm))]; rfl))) rfl gX12_taken_6.2.2
            · refine lv_iload_n hx hb gX12_taken_4.2.2.2.2.2.2.2.2.2 rfl (lv_at0 hl) ?_
              refine pS hC hK hl (m_above0 l G) si_X12_348 rfl rfl (Nat.le_of_ble_eq_true rfl) rm_4_1_1 ⟨by first | exact Nat.le_of_ble_eq_true rfl | exact Nat.zero_le _, by first | exact Nat.le_of_ble_eq_true rfl | exact Nat.zero_le _⟩ gX12_taken_5.1 (Keqr ?_)
              refine lv_istore_n (lv' := [(3, .int (-1)), (0, .ref h0), (1, .int (nI jt)), (2, .int x2)]) hx hb gX12_taken_5.2.1 rfl hl (by decide) rfl (fun ls hl => ?_)
              refine lv_goto (tgt := 78) hx hb gX12_taken_5.2.2.1 (by decide) ?_
              refine lv_iload_n hx hb gX12_taken_4.2.2.2.2.1 rfl (lv_at0 hl) ?_
              refine lv_if_lt (tgt := 95) hx hb gX12_taken_4.2.2.2.2.2.1 (by decide) (fun _ => ?_) (fun c9 => absurd (by decide) c9)
              refine lv_iload_n hx hb gX12_taken_5.2.2.2.1 rfl (lv_at0 hl) ?_
              refine lv_iload_n hx hb gX12_taken_5.2.2.2.2.1 rfl (lv_at3 hl) ?_
              refine lv_icmp_ne (tgt := 109) hx hb gX12_taken_5.2.2.2.2.2.1 (by decide) (fun c_97_5977 => ?_) (fun c_97_5977 => ?_)
              · refine lv_bipush (v := (-13)) hx hb gX12_taken_6.2.1 (by decide) ?_
                refine toQ hQ0 ?_
                exact RP (v := (-13)) hC ((by first | rfl | (simp only [nI_clamp (n := jt) (by omega), ifc_t ekq, ifc_t hkq, ifc_t ek8, ifc_t hk8, ifc_t ek9, ifc_t hk9, ifc_t hN, ifc_t a5924, ifc_t a5926, ifc_f c_37_5927, ifc_f c_84_5971, ifc_f c_84_5974, ifc_f c_97_5977, ifc_t (q := Wi x2 0 6 ∨ Wi x2 10 14) (Or.inl a5926), a5929, ifc_f (q := (6 : Int32) < 0) (by decide), ifc_f (q := UNl (6 : Int32).toNatClampNeg x2) (fun h9 => (show False from by have h7 : x2 = 6 ∨ x2 = 0 := h9; rcases h7 with h8 | h8 <;> (first | exact c_84_5971 h8.symm | exact c_84_5974 h8.symm)))]; done) | (simp only [nI_clamp (n := jt) (by omega), ifc_t ekq, ifc_t hkq, ifc_t ek8, ifc_t hk8, ifc_t ek9, ifc_t hk9, ifc_t hN, ifc_t a5924, ifc_t a5926, ifc_f c_37_5927, ifc_f c_84_5971, ifc_f c_84_5974, ifc_f c_97_5977, ifc_t (q := Wi x2 0 6 ∨ Wi x2 10 14) (Or.inl a5926), a5929, ifc_f (q := (6 : Int32) < 0) (by decide), ifc_f (q := UNl (6 : Int32).toNatClampNeg x2) (fun h9 => (show False from by have h7 : x2 = 6 ∨ x2 = 0 := h9; rcases h7 with h8 | h8 <;> (first | exact c_84_5971 h8.symm | exact c_84_5974 h8.symm)))]; rfl))) rfl gX12_taken_6.2.2
              · refine lv_aload_n hx hb gX12_taken_5.2.2.2.2.2.2.1 rfl (lv_at1 hl) ?_
                refine gf_X12_75 hC rfl hK hP 0 rfl rfl gX12_taken_5.2.2.2.2.2.2.2.1 ?_
                refine lv_iload_n hx hb gX12_taken_5.2.2.2.2.2.2.2.2.1 rfl (lv_at2 hl) ?_
                refine aldN hC hK hP 3 rfl (k := jt) (by omega) (Nat.le_of_ble_eq_true rfl) (v := fnsf jt) rfl gX12_taken_5.2.2.2.2.2.2.2.2.2 ?_
                refine lv_goto (tgt := 111) hx hb gX12_taken_6.1 (by decide) ?_
                refine toQ hQ0 ?_
                exact RP (v := fnsf jt) hC ((absurd a5926 (by rw [← c_97_5977]; unfold Wi; decide))) rfl gX12_taken_6.2.2
      · refine lv_iload_n hx hb gX12_taken_2.2.1 rfl (lv_at2 hl) ?_
        refine lv_bipush (v := 10) hx hb gX12_taken_2.2.2.1 (by decide) ?_
        refine lv_isub hx hb gX12_taken_2.2.2.2.1 ?_
        refine lv_aload_n hx hb gX12_taken_2.2.2.2.2.1 rfl (lv_at0 hl) ?_
        refine gf_X12_75 hC rfl hK hP 0 rfl rfl gX12_taken_2.2.2.2.2.2.1 ?_
        refine lv_iload_n hx hb gX12_taken_2.2.2.2.2.2.2.1 rfl (lv_at1 hl) ?_
        refine aldN hC hK hP 3 rfl (k := jt) (by omega) (Nat.le_of_ble_eq_true rfl) (v := fnsf jt) rfl gX12_taken_2.2.2.2.2.2.2.2.1 ?_
        refine lv_icmp_ne (tgt := 62) hx hb gX12_taken_2.2.2.2.2.2.2.2.2.1 (by decide) (fun c_50_5978 => ?_) (fun c_50_5978 => ?_)
        · refine lv_bipush (v := (-13)) hx hb gX12_taken_3.2.2.2.2.1 (by decide) ?_
          refine toQ hQ0 ?_
          exact RP (v := (-13)) hC ((by first | rfl | (simp only [nI_clamp (n := jt) (by omega), ifc_t ekq, ifc_t hkq, ifc_t ek8, ifc_t hk8, ifc_t ek9, ifc_t hk9, ifc_t hN, ifc_t a5924, ifc_t a5926, ifc_t c_37_5927, ifc_f c_50_5978, ifc_t (q := Wi x2 0 6 ∨ Wi x2 10 14) (Or.inl a5926)]; done) | (simp only [nI_clamp (n := jt) (by omega), ifc_t ekq, ifc_t hkq, ifc_t ek8, ifc_t hk8, ifc_t ek9, ifc_t hk9, ifc_t hN, ifc_t a5924, ifc_t a5926, ifc_t c_37_5927, ifc_f c_50_5978, ifc_t (q := Wi x2 0 6 ∨ Wi x2 10 14) (Or.inl a5926)]; rfl))) rfl gX12_taken_3.2.2.2.2.2.1
        · refine lv_aload_n hx hb gX12_taken_2.2.2.2.2.2.2.2.2.2 rfl (lv_at0 hl) ?_
          refine gf_X12_78 hC rfl hK hP 0 rfl rfl gX12_taken_3.1 ?_
          refine lv_iload_n hx hb gX12_taken_3.2.1 rfl (lv_at1 hl) ?_
          refine aldN hC hK hP 4 rfl (k := jt) (by omega) (Nat.le_of_ble_eq_true rfl) (v := fnss jt) rfl gX12_taken_3.2.2.1 ?_
          refine lv_goto (tgt := 64) hx hb gX12_taken_3.2.2.2.1 (by decide) ?_
          refine toQ hQ0 ?_
          exact RP (v := fnss jt) hC ((by first | rfl | (simp only [nI_clamp (n := jt) (by omega), ifc_t ekq, ifc_t hkq, ifc_t ek8, ifc_t hk8, ifc_t ek9, ifc_t hk9, ifc_t hN, ifc_t a5924, ifc_t a5926, ifc_t c_37_5927, ifc_t c_50_5978, ifc_t (q := Wi x2 0 6 ∨ Wi x2 10 14) (Or.inl a5926)]; done) | (simp only [nI_clamp (n := jt) (by omega), ifc_t ekq, ifc_t hkq, ifc_t ek8, ifc_t hk8, ifc_t ek9, ifc_t hk9, ifc_t hN, ifc_t a5924, ifc_t a5926, ifc_t c_37_5927, ifc_t c_50_5978, ifc_t (q := Wi x2 0 6 ∨ Wi x2 10 14) (Or.inl a5926)]; rfl))) rfl gX12_taken_3.2.2.2.2.2.1
    · refine lv_if_ne (tgt := 30) hx hb gX12_taken_0.2.2.2.2.2.2.2.1 (by decide) (fun c9 => absurd (by decide) c9) (fun _ => ?_)
      refine lv_iload_n hx hb gX12_taken_0.2.2.2.2.2.2.2.2.1 rfl (lv_at2 hl) ?_
      refine lv_bipush (v := 10) hx hb gX12_taken_0.2.2.2.2.2.2.2.2.2 (by decide) ?_
      refine lv_bipush (v := 14) hx hb gX12_taken_1.1 (by decide) ?_
      refine pS hC hK hl (m_within l G x2 10 14) si_X12_84 rfl rfl (Nat.le_of_ble_eq_true rfl) rm_4_1_3 ⟨by first | exact Nat.le_of_ble_eq_true rfl | exact Nat.zero_le _, by first | exact Nat.le_of_ble_eq_true rfl | exact Nat.zero_le _⟩ gX12_taken_1.2.1 (Kors (Keqa fun a5980 => ?_) (Keqa fun a5980 => ?_))
      · refine lv_if_ne (tgt := 30) hx hb gX12_taken_1.2.2.1 (by decide) (fun _ => ?_) (fun c9 => absurd c9 (by decide))
        obtain ⟨jt, hjt, rfl⟩ := Wi_nat (N := 3) (by decide) a5924
        refine lv_aload_n hx hb gX12_taken_1.2.2.2.2.2.1 rfl (lv_at0 hl) ?_
        refine gf_X12_72 hC rfl hK hP 0 rfl rfl gX12_taken_1.2.2.2.2.2.2.1 ?_
        refine lv_iload_n hx hb gX12_taken_1.2.2.2.2.2.2.2.1 rfl (lv_at1 hl) ?_
        refine aldN hC hK hP 2 rfl (k := jt) (by omega) (Nat.le_of_ble_eq_true rfl) (v := fnsh jt) rfl gX12_taken_1.2.2.2.2.2.2.2.2.1 ?_
        refine lv_iconst (v := 4) hx hb gX12_taken_1.2.2.2.2.2.2.2.2.2 (by decide) ?_
        refine lv_icmp_ne (tgt := 65) hx hb gX12_taken_2.1 (by decide) (fun c_37_5981 => ?_) (fun c_37_5981 => ?_)
        · refine lv_aload_n hx hb gX12_taken_3.2.2.2.2.2.2.1 rfl (lv_at0 hl) ?_
          refine lv_iload_n hx hb gX12_taken_3.2.2.2.2.2.2.2.1 rfl (lv_at1 hl) ?_
          refine pV hC hK hl hP hD (m_kindOnX l G kq k8 k9 h0 jt nw nk mhasKept nt mtaped nr mrowMany mroundOf mroundFrom mouts nm mfromHour mtoHour ns mfrom mto msort misFault mdeep mcoded mlines nl nc nF np ntr nb mbestCost nso nsi nit nsh nsf nss nrc mtraced mdealer mnumber mwhose msize misParted fnw fnsh fnsf (by omega) (ekq) (hkq) (ek8) (hk8) (ek9) (hk9) (hN)) si_X12_345 [0, 1, 2, 3] sm_0_1_2_3 fm_0_1_2_3 nd_0_1_2_3 rfl rfl rfl rfl rfl (Nat.le_of_ble_eq_true rfl) rm_4_3_4 ⟨by first | exact Nat.le_of_ble_eq_true rfl | exact Nat.zero_le _, by first | exact Nat.le_of_ble_eq_true rfl | exact Nat.zero_le _⟩ gX12_taken_3.2.2.2.2.2.2.2.2.1 (Kors (Keqa fun a5983 => ?_) (Kors (Keqa fun a5983 => ?_) (Kors (Keqa fun a5983 => ?_) (Kors (Keqa fun a5983 => ?_) (Kors (Keqa fun a5983 => ?_) (Kors (Keqa fun a5983 => ?_) (Keqa fun a5983 => ?_)))))))
          · refine lv_istore_n (lv' := [(3, .int (-1)), (0, .ref h0), (1, .int (nI jt)), (2, .int x2)]) hx hb gX12_taken_3.2.2.2.2.2.2.2.2.2 rfl hl (by decide) rfl (fun ls hl => ?_)
            refine lv_iload_n hx hb gX12_taken_4.1 rfl (lv_at0 hl) ?_
            refine lv_if_ge (tgt := 78) hx hb gX12_taken_4.2.1 (by decide) (fun c9 => absurd c9 (by decide)) (fun _ => ?_)
            refine lv_bipush (v := (-11)) hx hb gX12_taken_4.2.2.1 (by decide) ?_
            refine toQ hQ0 ?_
            exact RP (v := (-11)) hC ((by first | rfl | (simp only [nI_clamp (n := jt) (by omega), ifc_t ekq, ifc_t hkq, ifc_t ek8, ifc_t hk8, ifc_t ek9, ifc_t hk9, ifc_t hN, ifc_t a5924, ifc_f a5926, ifc_t a5980, ifc_f c_37_5981, ifc_t (q := Wi x2 0 6 ∨ Wi x2 10 14) (Or.inr a5980), a5983, ifc_t (q := (-1 : Int32) < 0) (by decide)]; done) | (simp only [nI_clamp (n := jt) (by omega), ifc_t ekq, ifc_t hkq, ifc_t ek8, ifc_t hk8, ifc_t ek9, ifc_t hk9, ifc_t hN, ifc_t a5924, ifc_f a5926, ifc_t a5980, ifc_f c_37_5981, ifc_t (q := Wi x2 0 6 ∨ Wi x2 10 14) (Or.inr a5980), a5983, ifc_t (q := (-1 : Int32) < 0) (by decide)]; rfl))) rfl gX12_taken_4.2.2.2.1
          · refine lv_istore_n (lv' := [(3, .int 1), (0, .ref h0), (1, .int (nI jt)), (2, .int x2)]) hx hb gX12_taken_3.2.2.2.2.2.2.2.2.2 rfl hl (by decide) rfl (fun ls hl => ?_)
            refine lv_iload_n hx hb gX12_taken_4.1 rfl (lv_at0 hl) ?_
            refine lv_if_ge (tgt := 78) hx hb gX12_taken_4.2.1 (by decide) (fun _ => ?_) (fun c9 => absurd (by decide) c9)
            refine lv_iload_n hx hb gX12_taken_4.2.2.2.2.1 rfl (lv_at0 hl) ?_
            refine lv_if_lt (tgt := 95) hx hb gX12_taken_4.2.2.2.2.2.1 (by decide) (fun c9 => absurd c9 (by decide)) (fun _ => ?_)
            refine lv_iload_n hx hb gX12_taken_4.2.2.2.2.2.2.1 rfl (lv_at0 hl) ?_
            refine lv_iload_n hx hb gX12_taken_4.2.2.2.2.2.2.2.1 rfl (lv_at3 hl) ?_
            refine lv_icmp_eq (tgt := 95) hx hb gX12_taken_4.2.2.2.2.2.2.2.2.1 (by decide) (fun c_84_5984 => ?_) (fun c_84_5984 => ?_)
            · refine lv_iload_n hx hb gX12_taken_5.2.2.2.1 rfl (lv_at0 hl) ?_
              refine lv_iload_n hx hb gX12_taken_5.2.2.2.2.1 rfl (lv_at3 hl) ?_
              refine lv_icmp_ne (tgt := 109) hx hb gX12_taken_5.2.2.2.2.2.1 (by decide) (fun c9 => absurd (c_84_5984) c9) (fun _ => ?_)
              refine lv_aload_n hx hb gX12_taken_5.2.2.2.2.2.2.1 rfl (lv_at1 hl) ?_
              refine gf_X12_75 hC rfl hK hP 0 rfl rfl gX12_taken_5.2.2.2.2.2.2.2.1 ?_
              refine lv_iload_n hx hb gX12_taken_5.2.2.2.2.2.2.2.2.1 rfl (lv_at2 hl) ?_
              refine aldN hC hK hP 3 rfl (k := jt) (by omega) (Nat.le_of_ble_eq_true rfl) (v := fnsf jt) rfl gX12_taken_5.2.2.2.2.2.2.2.2.2 ?_
              refine lv_goto (tgt := 111) hx hb gX12_taken_6.1 (by decide) ?_
              refine toQ hQ0 ?_
              exact RP (v := fnsf jt) hC ((by first | rfl | (simp only [nI_clamp (n := jt) (by omega), ifc_t ekq, ifc_t hkq, ifc_t ek8, ifc_t hk8, ifc_t ek9, ifc_t hk9, ifc_t hN, ifc_t a5924, ifc_f a5926, ifc_t a5980, ifc_f c_37_5981, ifc_t c_84_5984, ifc_t (q := Wi x2 0 6 ∨ Wi x2 10 14) (Or.inr a5980), a5983, ifc_f (q := (1 : Int32) < 0) (by decide), ifc_t (q := UNl (1 : Int32).toNatClampNeg x2) (show UNl 1 x2 from Or.inl (c_84_5984.symm))]; done) | (simp only [nI_clamp (n := jt) (by omega), ifc_t ekq, ifc_t hkq, ifc_t ek8, ifc_t hk8, ifc_t ek9, ifc_t hk9, ifc_t hN, ifc_t a5924, ifc_f a5926, ifc_t a5980, ifc_f c_37_5981, ifc_t c_84_5984, ifc_t (q := Wi x2 0 6 ∨ Wi x2 10 14) (Or.inr a5980), a5983, ifc_f (q := (1 : Int32) < 0) (by decide), ifc_t (q := UNl (1 : Int32).toNatClampNeg x2) (show UNl 1 x2 from Or.inl (c_84_5984.symm))]; rfl))) rfl gX12_taken_6.2.2
            · refine lv_iload_n hx hb gX12_taken_4.2.2.2.2.2.2.2.2.2 rfl (lv_at0 hl) ?_
              refine pS hC hK hl (m_above1 l G) si_X12_348 rfl rfl (Nat.le_of_ble_eq_true rfl) rm_4_1_1 ⟨by first | exact Nat.le_of_ble_eq_true rfl | exact Nat.zero_le _, by first | exact Nat.le_of_ble_eq_true rfl | exact Nat.zero_le _⟩ gX12_taken_5.1 (Keqr ?_)
              refine lv_istore_n (lv' := [(3, .int 0), (0, .ref h0), (1, .int (nI jt)), (2, .int x2)]) hx hb gX12_taken_5.2.1 rfl hl (by decide) rfl (fun ls hl => ?_)
              refine lv_goto (tgt := 78) hx hb gX12_taken_5.2.2.1 (by decide) ?_
              refine lv_iload_n hx hb gX12_taken_4.2.2.2.2.1 rfl (lv_at0 hl) ?_
              refine lv_if_lt (tgt := 95) hx hb gX12_taken_4.2.2.2.2.2.1 (by decide) (fun c9 => absurd c9 (by decide)) (fun _ => ?_)
              refine lv_iload_n hx hb gX12_taken_4.2.2.2.2.2.2.1 rfl (lv_at0 hl) ?_
              refine lv_iload_n hx hb gX12_taken_4.2.2.2.2.2.2.2.1 rfl (lv_at3 hl) ?_
              refine lv_icmp_eq (tgt := 95) hx hb gX12_taken_4.2.2.2.2.2.2.2.2.1 (by decide) (fun c_84_5987 => ?_) (fun c_84_5987 => ?_)
              · refine lv_iload_n hx hb gX12_taken_5.2.2.2.1 rfl (lv_at0 hl) ?_
                refine lv_iload_n hx hb gX12_taken_5.2.2.2.2.1 rfl (lv_at3 hl) ?_
                refine lv_icmp_ne (tgt := 109) hx hb gX12_taken_5.2.2.2.2.2.1 (by decide) (fun c9 => absurd (c_84_5987) c9) (fun _ => ?_)
                refine lv_aload_n hx hb gX12_taken_5.2.2.2.2.2.2.1 rfl (lv_at1 hl) ?_
                refine gf_X12_75 hC rfl hK hP 0 rfl rfl gX12_taken_5.2.2.2.2.2.2.2.1 ?_
                refine lv_iload_n hx hb gX12_taken_5.2.2.2.2.2.2.2.2.1 rfl (lv_at2 hl) ?_
                refine aldN hC hK hP 3 rfl (k := jt) (by omega) (Nat.le_of_ble_eq_true rfl) (v := fnsf jt) rfl gX12_taken_5.2.2.2.2.2.2.2.2.2 ?_
                refine lv_goto (tgt := 111) hx hb gX12_taken_6.1 (by decide) ?_
                refine toQ hQ0 ?_
                exact RP (v := fnsf jt) hC ((by first | rfl | (simp only [nI_clamp (n := jt) (by omega), ifc_t ekq, ifc_t hkq, ifc_t ek8, ifc_t hk8, ifc_t ek9, ifc_t hk9, ifc_t hN, ifc_t a5924, ifc_f a5926, ifc_t a5980, ifc_f c_37_5981, ifc_f c_84_5984, ifc_t c_84_5987, ifc_t (q := Wi x2 0 6 ∨ Wi x2 10 14) (Or.inr a5980), a5983, ifc_f (q := (1 : Int32) < 0) (by decide), ifc_t (q := UNl (1 : Int32).toNatClampNeg x2) (show UNl 1 x2 from Or.inr (c_84_5987.symm))]; done) | (simp only [nI_clamp (n := jt) (by omega), ifc_t ekq, ifc_t hkq, ifc_t ek8, ifc_t hk8, ifc_t ek9, ifc_t hk9, ifc_t hN, ifc_t a5924, ifc_f a5926, ifc_t a5980, ifc_f c_37_5981, ifc_f c_84_5984, ifc_t c_84_5987, ifc_t (q := Wi x2 0 6 ∨ Wi x2 10 14) (Or.inr a5980), a5983, ifc_f (q := (1 : Int32) < 0) (by decide), ifc_t (q := UNl (1 : Int32).toNatClampNeg x2) (show UNl 1 x2 from Or.inr (c_84_5987.symm))]; rfl))) rfl gX12_taken_6.2.2
              · refine lv_iload_n hx hb gX12_taken_4.2.2.2.2.2.2.2.2.2 rfl (lv_at0 hl) ?_
                refine pS hC hK hl (m_above0 l G) si_X12_348 rfl rfl (Nat.le_of_ble_eq_true rfl) rm_4_1_1 ⟨by first | exact Nat.le_of_ble_eq_true rfl | exact Nat.zero_le _, by first | exact Nat.le_of_ble_eq_true rfl | exact Nat.zero_le _⟩ gX12_taken_5.1 (Keqr ?_)
                refine lv_istore_n (lv' := [(3, .int (-1)), (0, .ref h0), (1, .int (nI jt)), (2, .int x2)]) hx hb gX12_taken_5.2.1 rfl hl (by decide) rfl (fun ls hl => ?_)
                refine lv_goto (tgt := 78) hx hb gX12_taken_5.2.2.1 (by decide) ?_
                refine lv_iload_n hx hb gX12_taken_4.2.2.2.2.1 rfl (lv_at0 hl) ?_
                refine lv_if_lt (tgt := 95) hx hb gX12_taken_4.2.2.2.2.2.1 (by decide) (fun _ => ?_) (fun c9 => absurd (by decide) c9)
                refine lv_iload_n hx hb gX12_taken_5.2.2.2.1 rfl (lv_at0 hl) ?_
                refine lv_iload_n hx hb gX12_taken_5.2.2.2.2.1 rfl (lv_at3 hl) ?_
                refine lv_icmp_ne (tgt := 109) hx hb gX12_taken_5.2.2.2.2.2.1 (by decide) (fun c_97_5990 => ?_) (fun c_97_5990 => ?_)
                · refine lv_bipush (v := (-13)) hx hb gX12_taken_6.2.1 (by decide) ?_
                  refine toQ hQ0 ?_
                  exact RP (v := (-13)) hC ((by first | rfl | (simp only [nI_clamp (n := jt) (by omega), ifc_t ekq, ifc_t hkq, ifc_t ek8, ifc_t hk8, ifc_t ek9, ifc_t hk9, ifc_t hN, ifc_t a5924, ifc_f a5926, ifc_t a5980, ifc_f c_37_5981, ifc_f c_84_5984, ifc_f c_84_5987, ifc_f c_97_5990, ifc_t (q := Wi x2 0 6 ∨ Wi x2 10 14) (Or.inr a5980), a5983, ifc_f (q := (1 : Int32) < 0) (by decide), ifc_f (q := UNl (1 : Int32).toNatClampNeg x2) (fun h9 => (show False from by have h7 : x2 = 1 ∨ x2 = 0 := h9; rcases h7 with h8 | h8 <;> (first | exact c_84_5984 h8.symm | exact c_84_5987 h8.symm)))]; done) | (simp only [nI_clamp (n := jt) (by omega), ifc_t ekq, ifc_t hkq, ifc_t ek8, ifc_t hk8, ifc_t ek9, ifc_t hk9, ifc_t hN, ifc_t a5924, ifc_f a5926, ifc_t a5980, ifc_f c_37_5981, ifc_f c_84_5984, ifc_f c_84_5987, ifc_f c_97_5990, ifc_t (q := Wi x2 0 6 ∨ Wi x2 10 14) (Or.inr a5980), a5983, ifc_f (q := (1 : Int32) < 0) (by decide), ifc_f (q := UNl (1 : Int32).toNatClampNeg x2) (fun h9 => (show False from by have h7 : x2 = 1 ∨ x2 = 0 := h9; rcases h7 with h8 | h8 <;> (first | exact c_84_5984 h8.symm | exact c_84_5987 h8.symm)))]; rfl))) rfl gX12_taken_6.2.2
                · refine lv_aload_n hx hb gX12_taken_5.2.2.2.2.2.2.1 rfl (lv_at1 hl) ?_
                  refine gf_X12_75 hC rfl hK hP 0 rfl rfl gX12_taken_5.2.2.2.2.2.2.2.1 ?_
                  refine lv_iload_n hx hb gX12_taken_5.2.2.2.2.2.2.2.2.1 rfl (lv_at2 hl) ?_
                  refine aldN hC hK hP 3 rfl (k := jt) (by omega) (Nat.le_of_ble_eq_true rfl) (v := fnsf jt) rfl gX12_taken_5.2.2.2.2.2.2.2.2.2 ?_
                  refine lv_goto (tgt := 111) hx hb gX12_taken_6.1 (by decide) ?_
                  refine toQ hQ0 ?_
                  exact RP (v := fnsf jt) hC ((absurd a5980 (by rw [← c_97_5990]; unfold Wi; decide))) rfl gX12_taken_6.2.2
          · refine lv_istore_n (lv' := [(3, .int 2), (0, .ref h0), (1, .int (nI jt)), (2, .int x2)]) hx hb gX12_taken_3.2.2.2.2.2.2.2.2.2 rfl hl (by decide) rfl (fun ls hl => ?_)
            refine lv_iload_n hx hb gX12_taken_4.1 rfl (lv_at0 hl) ?_
            refine lv_if_ge (tgt := 78) hx hb gX12_taken_4.2.1 (by decide) (fun _ => ?_) (fun c9 => absurd (by decide) c9)
            refine lv_iload_n hx hb gX12_taken_4.2.2.2.2.1 rfl (lv_at0 hl) ?_
            refine lv_if_lt (tgt := 95) hx hb gX12_taken_4.2.2.2.2.2.1 (by decide) (fun c9 => absurd c9 (by decide)) (fun _ => ?_)
            refine lv_iload_n hx hb gX12_taken_4.2.2.2.2.2.2.1 rfl (lv_at0 hl) ?_
            refine lv_iload_n hx hb gX12_taken_4.2.2.2.2.2.2.2.1 rfl (lv_at3 hl) ?_
            refine lv_icmp_eq (tgt := 95) hx hb gX12_taken_4.2.2.2.2.2.2.2.2.1 (by decide) (fun c_84_5991 => ?_) (fun c_84_5991 => ?_)
            · refine lv_iload_n hx hb gX12_taken_5.2.2.2.1 rfl (lv_at0 hl) ?_
              refine lv_iload_n hx hb gX12_taken_5.2.2.2.2.1 rfl (lv_at3 hl) ?_
              refine lv_icmp_ne (tgt := 109) hx hb gX12_taken_5.2.2.2.2.2.1 (by decide) (fun c9 => absurd (c_84_5991) c9) (fun _ => ?_)
              refine lv_aload_n hx hb gX12_taken_5.2.2.2.2.2.2.1 rfl (lv_at1 hl) ?_
              refine gf_X12_75 hC rfl hK hP 0 rfl rfl gX12_taken_5.2.2.2.2.2.2.2.1 ?_
              refine lv_iload_n hx hb gX12_taken_5.2.2.2.2.2.2.2.2.1 rfl (lv_at2 hl) ?_
              refine aldN hC hK hP 3 rfl (k := jt) (by omega) (Nat.le_of_ble_eq_true rfl) (v := fnsf jt) rfl gX12_taken_5.2.2.2.2.2.2.2.2.2 ?_
              refine lv_goto (tgt := 111) hx hb gX12_taken_6.1 (by decide) ?_
              refine toQ hQ0 ?_
              exact RP (v := fnsf jt) hC ((by first | rfl | (simp only [nI_clamp (n := jt) (by omega), ifc_t ekq, ifc_t hkq, ifc_t ek8, ifc_t hk8, ifc_t ek9, ifc_t hk9, ifc_t hN, ifc_t a5924, ifc_f a5926, ifc_t a5980, ifc_f c_37_5981, ifc_t c_84_5991, ifc_t (q := Wi x2 0 6 ∨ Wi x2 10 14) (Or.inr a5980), a5983, ifc_f (q := (2 : Int32) < 0) (by decide), ifc_t (q := UNl (2 : Int32).toNatClampNeg x2) (show UNl 2 x2 from Or.inl (c_84_5991.symm))]; done) | (simp only [nI_clamp (n := jt) (by omega), ifc_t ekq, ifc_t hkq, ifc_t ek8, ifc_t hk8, ifc_t ek9, ifc_t hk9, ifc_t hN, ifc_t a5924, ifc_f a5926, ifc_t a5980, ifc_f c_37_5981, ifc_t c_84_5991, ifc_t (q := Wi x2 0 6 ∨ Wi x2 10 14) (Or.inr a5980), a5983, ifc_f (q := (2 : Int32) < 0) (by decide), ifc_t (q := UNl (2 : Int32).toNatClampNeg x2) (show UNl 2 x2 from Or.inl (c_84_5991.symm))]; rfl))) rfl gX12_taken_6.2.2
            · refine lv_iload_n hx hb gX12_taken_4.2.2.2.2.2.2.2.2.2 rfl (lv_at0 hl) ?_
              refine pS hC hK hl (m_above2 l G) si_X12_348 rfl rfl (Nat.le_of_ble_eq_true rfl) rm_4_1_1 ⟨by first | exact Nat.le_of_ble_eq_true rfl | exact Nat.zero_le _, by first | exact Nat.le_of_ble_eq_true rfl | exact Nat.zero_le _⟩ gX12_taken_5.1 (Keqr ?_)
              refine lv_istore_n (lv' := [(3, .int 0), (0, .ref h0), (1, .int (nI jt)), (2, .int x2)]) hx hb gX12_taken_5.2.1 rfl hl (by decide) rfl (fun ls hl => ?_)
              refine lv_goto (tgt := 78) hx hb gX12_taken_5.2.2.1 (by decide) ?_
              refine lv_iload_n hx hb gX12_taken_4.2.2.2.2.1 rfl (lv_at0 hl) ?_
              refine lv_if_lt (tgt := 95) hx hb gX12_taken_4.2.2.2.2.2.1 (by decide) (fun c9 => absurd c9 (by decide)) (fun _ => ?_)
              refine lv_iload_n hx hb gX12_taken_4.2.2.2.2.2.2.1 rfl (lv_at0 hl) ?_
              refine lv_iload_n hx hb gX12_taken_4.2.2.2.2.2.2.2.1 rfl (lv_at3 hl) ?_
              refine lv_icmp_eq (tgt := 95) hx hb gX12_taken_4.2.2.2.2.2.2.2.2.1 (by decide) (fun c_84_5994 => ?_) (fun c_84_5994 => ?_)
              · refine lv_iload_n hx hb gX12_taken_5.2.2.2.1 rfl (lv_at0 hl) ?_
                refine lv_iload_n hx hb gX12_taken_5.2.2.2.2.1 rfl (lv_at3 hl) ?_
                refine lv_icmp_ne (tgt := 109) hx hb gX12_taken_5.2.2.2.2.2.1 (by decide) (fun c9 => absurd (c_84_5994) c9) (fun _ => ?_)
                refine lv_aload_n hx hb gX12_taken_5.2.2.2.2.2.2.1 rfl (lv_at1 hl) ?_
                refine gf_X12_75 hC rfl hK hP 0 rfl rfl gX12_taken_5.2.2.2.2.2.2.2.1 ?_
                refine lv_iload_n hx hb gX12_taken_5.2.2.2.2.2.2.2.2.1 rfl (lv_at2 hl) ?_
                refine aldN hC hK hP 3 rfl (k := jt) (by omega) (Nat.le_of_ble_eq_true rfl) (v := fnsf jt) rfl gX12_taken_5.2.2.2.2.2.2.2.2.2 ?_
                refine lv_goto (tgt := 111) hx hb gX12_taken_6.1 (by decide) ?_
                refine toQ hQ0 ?_
                exact RP (v := fnsf jt) hC ((by first | rfl | (simp only [nI_clamp (n := jt) (by omega), ifc_t ekq, ifc_t hkq, ifc_t ek8, ifc_t hk8, ifc_t ek9, ifc_t hk9, ifc_t hN, ifc_t a5924, ifc_f a5926, ifc_t a5980, ifc_f c_37_5981, ifc_f c_84_5991, ifc_t c_84_5994, ifc_t (q := Wi x2 0 6 ∨ Wi x2 10 14) (Or.inr a5980), a5983, ifc_f (q := (2 : Int32) < 0) (by decide), ifc_t (q := UNl (2 : Int32).toNatClampNeg x2) (show UNl 2 x2 from Or.inr (c_84_5994.symm))]; done) | (simp only [nI_clamp (n := jt) (by omega), ifc_t ekq, ifc_t hkq, ifc_t ek8, ifc_t hk8, ifc_t ek9, ifc_t hk9, ifc_t hN, ifc_t a5924, ifc_f a5926, ifc_t a5980, ifc_f c_37_5981, ifc_f c_84_5991, ifc_t c_84_5994, ifc_t (q := Wi x2 0 6 ∨ Wi x2 10 14) (Or.inr a5980), a5983, ifc_f (q := (2 : Int32) < 0) (by decide), ifc_t (q := UNl (2 : Int32).toNatClampNeg x2) (show UNl 2 x2 from Or.inr (c_84_5994.symm))]; rfl))) rfl gX12_taken_6.2.2
              · refine lv_iload_n hx hb gX12_taken_4.2.2.2.2.2.2.2.2.2 rfl (lv_at0 hl) ?_
                refine pS hC hK hl (m_above0 l G) si_X12_348 rfl rfl (Nat.le_of_ble_eq_true rfl) rm_4_1_1 ⟨by first | exact Nat.le_of_ble_eq_true rfl | exact Nat.zero_le _, by first | exact Nat.le_of_ble_eq_true rfl | exact Nat.zero_le _⟩ gX12_taken_5.1 (Keqr ?_)
                refine lv_istore_n (lv' := [(3, .int (-1)), (0, .ref h0), (1, .int (nI jt)), (2, .int x2)]) hx hb gX12_taken_5.2.1 rfl hl (by decide) rfl (fun ls hl => ?_)
                refine lv_goto (tgt := 78) hx hb gX12_taken_5.2.2.1 (by decide) ?_
                refine lv_iload_n hx hb gX12_taken_4.2.2.2.2.1 rfl (lv_at0 hl) ?_
                refine lv_if_lt (tgt := 95) hx hb gX12_taken_4.2.2.2.2.2.1 (by decide) (fun _ => ?_) (fun c9 => absurd (by decide) c9)
                refine lv_iload_n hx hb gX12_taken_5.2.2.2.1 rfl (lv_at0 hl) ?_
                refine lv_iload_n hx hb gX12_taken_5.2.2.2.2.1 rfl (lv_at3 hl) ?_
                refine lv_icmp_ne (tgt := 109) hx hb gX12_taken_5.2.2.2.2.2.1 (by decide) (fun c_97_5997 => ?_) (fun c_97_5997 => ?_)
                · refine lv_bipush (v := (-13)) hx hb gX12_taken_6.2.1 (by decide) ?_
                  refine toQ hQ0 ?_
                  exact RP (v := (-13)) hC ((by first | rfl | (simp only [nI_clamp (n := jt) (by omega), ifc_t ekq, ifc_t hkq, ifc_t ek8, ifc_t hk8, ifc_t ek9, ifc_t hk9, ifc_t hN, ifc_t a5924, ifc_f a5926, ifc_t a5980, ifc_f c_37_5981, ifc_f c_84_5991, ifc_f c_84_5994, ifc_f c_97_5997, ifc_t (q := Wi x2 0 6 ∨ Wi x2 10 14) (Or.inr a5980), a5983, ifc_f (q := (2 : Int32) < 0) (by decide), ifc_f (q := UNl (2 : Int32).toNatClampNeg x2) (fun h9 => (show False from by have h7 : x2 = 2 ∨ x2 = 0 := h9; rcases h7 with h8 | h8 <;> (first | exact c_84_5991 h8.symm | exact c_84_5994 h8.symm)))]; done) | (simp only [nI_clamp (n := jt) (by omega), ifc_t ekq, ifc_t hkq, ifc_t ek8, ifc_t hk8, ifc_t ek9, ifc_t hk9, ifc_t hN, ifc_t a5924, ifc_f a5926, ifc_t a5980, ifc_f c_37_5981, ifc_f c_84_5991, ifc_f c_84_5994, ifc_f c_97_5997, ifc_t (q := Wi x2 0 6 ∨ Wi x2 10 14) (Or.inr a5980), a5983, ifc_f (q := (2 : Int32) < 0) (by decide), ifc_f (q := UNl (2 : Int32).toNatClampNeg x2) (fun h9 => (show False from by have h7 : x2 = 2 ∨ x2 = 0 := h9; rcases h7 with h8 | h8 <;> (first | exact c_84_5991 h8.symm | exact c_84_5994 h8.symm)))]; rfl))) rfl gX12_taken_6.2.2
                · refine lv_aload_n hx hb gX12_taken_5.2.2.2.2.2.2.1 rfl (lv_at1 hl) ?_
                  refine gf_X12_75 hC rfl hK hP 0 rfl rfl gX12_taken_5.2.2.2.2.2.2.2.1 ?_
                  refine lv_iload_n hx hb gX12_taken_5.2.2.2.2.2.2.2.2.1 rfl (lv_at2 hl) ?_
                  refine aldN hC hK hP 3 rfl (k := jt) (by omega) (Nat.le_of_ble_eq_true rfl) (v := fnsf jt) rfl gX12_taken_5.2.2.2.2.2.2.2.2.2 ?_
                  refine lv_goto (tgt := 111) hx hb gX12_taken_6.1 (by decide) ?_
                  refine toQ hQ0 ?_
                  exact RP (v := fnsf jt) hC ((absurd a5980 (by rw [← c_97_5997]; unfold Wi; decide))) rfl gX12_taken_6.2.2
          · refine lv_istore_n (lv' := [(3, .int 3), (0, .ref h0), (1, .int (nI jt)), (2, .int x2)]) hx hb gX12_taken_3.2.2.2.2.2.2.2.2.2 rfl hl (by decide) rfl (fun ls hl => ?_)
            refine lv_iload_n hx hb gX12_taken_4.1 rfl (lv_at0 hl) ?_
            refine lv_if_ge (tgt := 78) hx hb gX12_taken_4.2.1 (by decide) (fun _ => ?_) (fun c9 => absurd (by decide) c9)
            refine lv_iload_n hx hb gX12_taken_4.2.2.2.2.1 rfl (lv_at0 hl) ?_
            refine lv_if_lt (tgt := 95) hx hb gX12_taken_4.2.2.2.2.2.1 (by decide) (fun c9 => absurd c9 (by decide)) (fun _ => ?_)
            refine lv_iload_n hx hb gX12_taken_4.2.2.2.2.2.2.1 rfl (lv_at0 hl) ?_
            refine lv_iload_n hx hb gX12_taken_4.2.2.2.2.2.2.2.1 rfl (lv_at3 hl) ?_
            refine lv_icmp_eq (tgt := 95) hx hb gX12_taken_4.2.2.2.2.2.2.2.2.1 (by decide) (fun c_84_5998 => ?_) (fun c_84_5998 => ?_)
            · refine lv_iload_n hx hb gX12_taken_5.2.2.2.1 rfl (lv_at0 hl) ?_
              refine lv_iload_n hx hb gX12_taken_5.2.2.2.2.1 rfl (lv_at3 hl) ?_
              refine lv_icmp_ne (tgt := 109) hx hb gX12_taken_5.2.2.2.2.2.1 (by decide) (fun c9 => absurd (c_84_5998) c9) (fun _ => ?_)
              refine lv_aload_n hx hb gX12_taken_5.2.2.2.2.2.2.1 rfl (lv_at1 hl) ?_
              refine gf_X12_75 hC rfl hK hP 0 rfl rfl gX12_taken_5.2.2.2.2.2.2.2.1 ?_
              refine lv_iload_n hx hb gX12_taken_5.2.2.2.2.2.2.2.2.1 rfl (lv_at2 hl) ?_
              refine aldN hC hK hP 3 rfl (k := jt) (by omega) (Nat.le_of_ble_eq_true rfl) (v := fnsf jt) rfl gX12_taken_5.2.2.2.2.2.2.2.2.2 ?_
              refine lv_goto (tgt := 111) hx hb gX12_taken_6.1 (by decide) ?_
              refine toQ hQ0 ?_
              exact RP (v := fnsf jt) hC ((by first | rfl | (simp only [nI_clamp (n := jt) (by omega), ifc_t ekq, ifc_t hkq, ifc_t ek8, ifc_t hk8, ifc_t ek9, ifc_t hk9, ifc_t hN, ifc_t a5924, ifc_f a5926, ifc_t a5980, ifc_f c_37_5981, ifc_t c_84_5998, ifc_t (q := Wi x2 0 6 ∨ Wi x2 10 14) (Or.inr a5980), a5983, ifc_f (q := (3 : Int32) < 0) (by decide), ifc_t (q := UNl (3 : Int32).toNatClampNeg x2) (show UNl 3 x2 from Or.inl (c_84_5998.symm))]; done) | (simp only [nI_clamp (n := jt) (by omega), ifc_t ekq, ifc_t hkq, ifc_t ek8, ifc_t hk8, ifc_t ek9, ifc_t hk9, ifc_t hN, ifc_t a5924, ifc_f a5926, ifc_t a5980, ifc_f c_37_5981, ifc_t c_84_5998, ifc_t (q := Wi x2 0 6 ∨ Wi x2 10 14) (Or.inr a5980), a5983, ifc_f (q := (3 : Int32) < 0) (by decide), ifc_t (q := UNl (3 : Int32).toNatClampNeg x2) (show UNl 3 x2 from Or.inl (c_84_5998.symm))]; rfl))) rfl gX12_taken_6.2.2
            · refine lv_iload_n hx hb gX12_taken_4.2.2.2.2.2.2.2.2.2 rfl (lv_at0 hl) ?_
              refine pS hC hK hl (m_above3 l G) si_X12_348 rfl rfl (Nat.le_of_ble_eq_true rfl) rm_4_1_1 ⟨by first | exact Nat.le_of_ble_eq_true rfl | exact Nat.zero_le _, by first | exact Nat.le_of_ble_eq_true rfl | exact Nat.zero_le _⟩ gX12_taken_5.1 (Keqr ?_)
              refine lv_istore_n (lv' := [(3, .int 1), (0, .ref h0), (1, .int (nI jt)), (2, .int x2)]) hx hb gX12_taken_5.2.1 rfl hl (by decide) rfl (fun ls hl => ?_)
              refine lv_goto (tgt := 78) hx hb gX12_taken_5.2.2.1 (by decide) ?_
              refine lv_iload_n hx hb gX12_taken_4.2.2.2.2.1 rfl (lv_at0 hl) ?_
              refine lv_if_lt (tgt := 95) hx hb gX12_taken_4.2.2.2.2.2.1 (by decide) (fun c9 => absurd c9 (by decide)) (fun _ => ?_)
              refine lv_iload_n hx hb gX12_taken_4.2.2.2.2.2.2.1 rfl (lv_at0 hl) ?_
              refine lv_iload_n hx hb gX12_taken_4.2.2.2.2.2.2.2.1 rfl (lv_at3 hl) ?_
              refine lv_icmp_eq (tgt := 95) hx hb gX12_taken_4.2.2.2.2.2.2.2.2.1 (by decide) (fun c_84_6001 => ?_) (fun c_84_6001 => ?_)
              · refine lv_iload_n hx hb gX12_taken_5.2.2.2.1 rfl (lv_at0 hl) ?_
                refine lv_iload_n hx hb gX12_taken_5.2.2.2.2.1 rfl (lv_at3 hl) ?_
                refine lv_icmp_ne (tgt := 109) hx hb gX12_taken_5.2.2.2.2.2.1 (by decide) (fun c9 => absurd (c_84_6001) c9) (fun _ => ?_)
                refine lv_aload_n hx hb gX12_taken_5.2.2.2.2.2.2.1 rfl (lv_at1 hl) ?_
                refine gf_X12_75 hC rfl hK hP 0 rfl rfl gX12_taken_5.2.2.2.2.2.2.2.1 ?_
                refine lv_iload_n hx hb gX12_taken_5.2.2.2.2.2.2.2.2.1 rfl (lv_at2 hl) ?_
                refine aldN hC hK hP 3 rfl (k := jt) (by omega) (Nat.le_of_ble_eq_true rfl) (v := fnsf jt) rfl gX12_taken_5.2.2.2.2.2.2.2.2.2 ?_
                refine lv_goto (tgt := 111) hx hb gX12_taken_6.1 (by decide) ?_
                refine toQ hQ0 ?_
                exact RP (v := fnsf jt) hC ((by first | rfl | (simp only [nI_clamp (n := jt) (by omega), ifc_t ekq, ifc_t hkq, ifc_t ek8, ifc_t hk8, ifc_t ek9, ifc_t hk9, ifc_t hN, ifc_t a5924, ifc_f a5926, ifc_t a5980, ifc_f c_37_5981, ifc_f c_84_5998, ifc_t c_84_6001, ifc_t (q := Wi x2 0 6 ∨ Wi x2 10 14) (Or.inr a5980), a5983, ifc_f (q := (3 : Int32) < 0) (by decide), ifc_t (q := UNl (3 : Int32).toNatClampNeg x2) (show UNl 3 x2 from Or.inr (Or.inl (c_84_6001.symm)))]; done) | (simp only [nI_clamp (n := jt) (by omega), ifc_t ekq, ifc_t hkq, ifc_t ek8, ifc_t hk8, ifc_t ek9, ifc_t hk9, ifc_t hN, ifc_t a5924, ifc_f a5926, ifc_t a5980, ifc_f c_37_5981, ifc_f c_84_5998, ifc_t c_84_6001, ifc_t (q := Wi x2 0 6 ∨ Wi x2 10 14) (Or.inr a5980), a5983, ifc_f (q := (3 : Int32) < 0) (by decide), ifc_t (q := UNl (3 : Int32).toNatClampNeg x2) (show UNl 3 x2 from Or.inr (Or.inl (c_84_6001.symm)))]; rfl))) rfl gX12_taken_6.2.2
              · refine lv_iload_n hx hb gX12_taken_4.2.2.2.2.2.2.2.2.2 rfl (lv_at0 hl) ?_
                refine pS hC hK hl (m_above1 l G) si_X12_348 rfl rfl (Nat.le_of_ble_eq_true rfl) rm_4_1_1 ⟨by first | exact Nat.le_of_ble_eq_true rfl | exact Nat.zero_le _, by first | exact Nat.le_of_ble_eq_true rfl | exact Nat.zero_le _⟩ gX12_taken_5.1 (Keqr ?_)
                refine lv_istore_n (lv' := [(3, .int 0), (0, .ref h0), (1, .int (nI jt)), (2, .int x2)]) hx hb gX12_taken_5.2.1 rfl hl (by decide) rfl (fun ls hl => ?_)
                refine lv_goto (tgt := 78) hx hb gX12_taken_5.2.2.1 (by decide) ?_
                refine lv_iload_n hx hb gX12_taken_4.2.2.2.2.1 rfl (lv_at0 hl) ?_
                refine lv_if_lt (tgt := 95) hx hb gX12_taken_4.2.2.2.2.2.1 (by decide) (fun c9 => absurd c9 (by decide)) (fun _ => ?_)
                refine lv_iload_n hx hb gX12_taken_4.2.2.2.2.2.2.1 rfl (lv_at0 hl) ?_
                refine lv_iload_n hx hb gX12_taken_4.2.2.2.2.2.2.2.1 rfl (lv_at3 hl) ?_
                refine lv_icmp_eq (tgt := 95) hx hb gX12_taken_4.2.2.2.2.2.2.2.2.1 (by decide) (fun c_84_6004 => ?_) (fun c_84_6004 => ?_)
                · refine lv_iload_n hx hb gX12_taken_5.2.2.2.1 rfl (lv_at0 hl) ?_
                  refine lv_iload_n hx hb gX12_taken_5.2.2.2.2.1 rfl (lv_at3 hl) ?_
                  refine lv_icmp_ne (tgt := 109) hx hb gX12_taken_5.2.2.2.2.2.1 (by decide) (fun c9 => absurd (c_84_6004) c9) (fun _ => ?_)
                  refine lv_aload_n hx hb gX12_taken_5.2.2.2.2.2.2.1 rfl (lv_at1 hl) ?_
                  refine gf_X12_75 hC rfl hK hP 0 rfl rfl gX12_taken_5.2.2.2.2.2.2.2.1 ?_
                  refine lv_iload_n hx hb gX12_taken_5.2.2.2.2.2.2.2.2.1 rfl (lv_at2 hl) ?_
                  refine aldN hC hK hP 3 rfl (k := jt) (by omega) (Nat.le_of_ble_eq_true rfl) (v := fnsf jt) rfl gX12_taken_5.2.2.2.2.2.2.2.2.2 ?_
                  refine lv_goto (tgt := 111) hx hb gX12_taken_6.1 (by decide) ?_
                  refine toQ hQ0 ?_
                  exact RP (v := fnsf jt) hC ((by first | rfl | (simp only [nI_clamp (n := jt) (by omega), ifc_t ekq, ifc_t hkq, ifc_t ek8, ifc_t hk8, ifc_t ek9, ifc_t hk9, ifc_t hN, ifc_t a5924, ifc_f a5926, ifc_t a5980, ifc_f c_37_5981, ifc_f c_84_5998, ifc_f c_84_6001, ifc_t c_84_6004, ifc_t (q := Wi x2 0 6 ∨ Wi x2 10 14) (Or.inr a5980), a5983, ifc_f (q := (3 : Int32) < 0) (by decide), ifc_t (q := UNl (3 : Int32).toNatClampNeg x2) (show UNl 3 x2 from Or.inr (Or.inr (c_84_6004.symm)))]; done) | (simp only [nI_clamp (n := jt) (by omega), ifc_t ekq, ifc_t hkq, ifc_t ek8, ifc_t hk8, ifc_t ek9, ifc_t hk9, ifc_t hN, ifc_t a5924, ifc_f a5926, ifc_t a5980, ifc_f c_37_5981, ifc_f c_84_5998, ifc_f c_84_6001, ifc_t c_84_6004, ifc_t (q := Wi x2 0 6 ∨ Wi x2 10 14) (Or.inr a5980), a5983, ifc_f (q := (3 : Int32) < 0) (by decide), ifc_t (q := UNl (3 : Int32).toNatClampNeg x2) (show UNl 3 x2 from Or.inr (Or.inr (c_84_6004.symm)))]; rfl))) rfl gX12_taken_6.2.2
                · refine lv_iload_n hx hb gX12_taken_4.2.2.2.2.2.2.2.2.2 rfl (lv_at0 hl) ?_
                  refine pS hC hK hl (m_above0 l G) si_X12_348 rfl rfl (Nat.le_of_ble_eq_true rfl) rm_4_1_1 ⟨by first | exact Nat.le_of_ble_eq_true rfl | exact Nat.zero_le _, by first | exact Nat.le_of_ble_eq_true rfl | exact Nat.zero_le _⟩ gX12_taken_5.1 (Keqr ?_)
                  refine lv_istore_n (lv' := [(3, .int (-1)), (0, .ref h0), (1, .int (nI jt)), (2, .int x2)]) hx hb gX12_taken_5.2.1 rfl hl (by decide) rfl (fun ls hl => ?_)
                  refine lv_goto (tgt := 78) hx hb gX12_taken_5.2.2.1 (by decide) ?_
                  refine lv_iload_n hx hb gX12_taken_4.2.2.2.2.1 rfl (lv_at0 hl) ?_
                  refine lv_if_lt (tgt := 95) hx hb gX12_taken_4.2.2.2.2.2.1 (by decide) (fun _ => ?_) (fun c9 => absurd (by decide) c9)
                  refine lv_iload_n hx hb gX12_taken_5.2.2.2.1 rfl (lv_at0 hl) ?_
                  refine lv_iload_n hx hb gX12_taken_5.2.2.2.2.1 rfl (lv_at3 hl) ?_
                  refine lv_icmp_ne (tgt := 109) hx hb gX12_taken_5.2.2.2.2.2.1 (by decide) (fun c_97_6007 => ?_) (fun c_97_6007 => ?_)
                  · refine lv_bipush (v := (-13)) hx hb gX12_taken_6.2.1 (by decide) ?_
                    refine toQ hQ0 ?_
                    exact RP (v := (-13)) hC ((by first | rfl | (simp only [nI_clamp (n := jt) (by omega), ifc_t ekq, ifc_t hkq, ifc_t ek8, ifc_t hk8, ifc_t ek9, ifc_t hk9, ifc_t hN, ifc_t a5924, ifc_f a5926, ifc_t a5980, ifc_f c_37_5981, ifc_f c_84_5998, ifc_f c_84_6001, ifc_f c_84_6004, ifc_f c_97_6007, ifc_t (q := Wi x2 0 6 ∨ Wi x2 10 14) (Or.inr a5980), a5983, ifc_f (q := (3 : Int32) < 0) (by decide), ifc_f (q := UNl (3 : Int32).toNatClampNeg x2) (fun h9 => (show False from by have h7 : x2 = 3 ∨ x2 = 1 ∨ x2 = 0 := h9; rcases h7 with h8 | h8 | h8 <;> (first | exact c_84_5998 h8.symm | exact c_84_6001 h8.symm | exact c_84_6004 h8.symm)))]; done) | (simp only [nI_clamp (n := jt) (by omega), ifc_t ekq, ifc_t hkq, ifc_t ek8, ifc_t hk8, ifc_t ek9, ifc_t hk9, ifc_t hN, ifc_t a5924, ifc_f a5926, ifc_t a5980, ifc_f c_37_5981, ifc_f c_84_5998, ifc_f c_84_6001, ifc_f c_84_6004, ifc_f c_97_6007, ifc_t (q := Wi x2 0 6 ∨ Wi x2 10 14) (Or.inr a5980), a5983, ifc_f (q := (3 : Int32) < 0) (by decide), ifc_f (q := UNl (3 : Int32).toNatClampNeg x2) (fun h9 => (show False from by have h7 : x2 = 3 ∨ x2 = 1 ∨ x2 = 0 := h9; rcases h7 with h8 | h8 | h8 <;> (first | exact c_84_5998 h8.symm | exact c_84_6001 h8.symm | exact c_84_6004 h8.symm)))]; rfl))) rfl gX12_taken_6.2.2
                  · refine lv_aload_n hx hb gX12_taken_5.2.2.2.2.2.2.1 rfl (lv_at1 hl) ?_
                    refine gf_X12_75 hC rfl hK hP 0 rfl rfl gX12_taken_5.2.2.2.2.2.2.2.1 ?_
                    refine lv_iload_n hx hb gX12_taken_5.2.2.2.2.2.2.2.2.1 rfl (lv_at2 hl) ?_
                    refine aldN hC hK hP 3 rfl (k := jt) (by omega) (Nat.le_of_ble_eq_true rfl) (v := fnsf jt) rfl gX12_taken_5.2.2.2.2.2.2.2.2.2 ?_
                    refine lv_goto (tgt := 111) hx hb gX12_taken_6.1 (by decide) ?_
                    refine toQ hQ0 ?_
                    exact RP (v := fnsf jt) hC ((absurd a5980 (by rw [← c_97_6007]; unfold Wi; decide))) rfl gX12_taken_6.2.2
          · refine lv_istore_n (lv' := [(3, .int 4), (0, .ref h0), (1, .int (nI jt)), (2, .int x2)]) hx hb gX12_taken_3.2.2.2.2.2.2.2.2.2 rfl hl (by decide) rfl (fun ls hl => ?_)
            refine lv_iload_n hx hb gX12_taken_4.1 rfl (lv_at0 hl) ?_
            refine lv_if_ge (tgt := 78) hx hb gX12_taken_4.2.1 (by decide) (fun _ => ?_) (fun c9 => absurd (by decide) c9)
            refine lv_iload_n hx hb gX12_taken_4.2.2.2.2.1 rfl (lv_at0 hl) ?_
            refine lv_if_lt (tgt := 95) hx hb gX12_taken_4.2.2.2.2.2.1 (by decide) (fun c9 => absurd c9 (by decide)) (fun _ => ?_)
            refine lv_iload_n hx hb gX12_taken_4.2.2.2.2.2.2.1 rfl (lv_at0 hl) ?_
            refine lv_iload_n hx hb gX12_taken_4.2.2.2.2.2.2.2.1 rfl (lv_at3 hl) ?_
            refine lv_icmp_eq (tgt := 95) hx hb gX12_taken_4.2.2.2.2.2.2.2.2.1 (by decide) (fun c_84_6008 => ?_) (fun c_84_6008 => ?_)
            · refine lv_iload_n hx hb gX12_taken_5.2.2.2.1 rfl (lv_at0 hl) ?_
              refine lv_iload_n hx hb gX12_taken_5.2.2.2.2.1 rfl (lv_at3 hl) ?_
              refine lv_icmp_ne (tgt := 109) hx hb gX12_taken_5.2.2.2.2.2.1 (by decide) (fun c9 => absurd (c_84_6008) c9) (fun _ => ?_)
              refine lv_aload_n hx hb gX12_taken_5.2.2.2.2.2.2.1 rfl (lv_at1 hl) ?_
              refine gf_X12_75 hC rfl hK hP 0 rfl rfl gX12_taken_5.2.2.2.2.2.2.2.1 ?_
              refine lv_iload_n hx hb gX12_taken_5.2.2.2.2.2.2.2.2.1 rfl (lv_at2 hl) ?_
              refine aldN hC hK hP 3 rfl (k := jt) (by omega) (Nat.le_of_ble_eq_true rfl) (v := fnsf jt) rfl gX12_taken_5.2.2.2.2.2.2.2.2.2 ?_
              refine lv_goto (tgt := 111) hx hb gX12_taken_6.1 (by decide) ?_
              refine toQ hQ0 ?_
              exact RP (v := fnsf jt) hC ((by first | rfl | (simp only [nI_clamp (n := jt) (by omega), ifc_t ekq, ifc_t hkq, ifc_t ek8, ifc_t hk8, ifc_t ek9, ifc_t hk9, ifc_t hN, ifc_t a5924, ifc_f a5926, ifc_t a5980, ifc_f c_37_5981, ifc_t c_84_6008, ifc_t (q := Wi x2 0 6 ∨ Wi x2 10 14) (Or.inr a5980), a5983, ifc_f (q := (4 : Int32) < 0) (by decide), ifc_t (q := UNl (4 : Int32).toNatClampNeg x2) (show UNl 4 x2 from Or.inl (c_84_6008.symm))]; done) | (simp only [nI_clamp (n := jt) (by omega), ifc_t ekq, ifc_t hkq, ifc_t ek8, ifc_t hk8, ifc_t ek9, ifc_t hk9, ifc_t hN, ifc_t a5924, ifc_f a5926, ifc_t a5980, ifc_f c_37_5981, ifc_t c_84_6008, ifc_t (q := Wi x2 0 6 ∨ Wi x2 10 14) (Or.inr a5980), a5983, ifc_f (q := (4 : Int32) < 0) (by decide), ifc_t (q := UNl (4 : Int32).toNatClampNeg x2) (show UNl 4 x2 from Or.inl (c_84_6008.symm))]; rfl))) rfl gX12_taken_6.2.2
            · refine lv_iload_n hx hb gX12_taken_4.2.2.2.2.2.2.2.2.2 rfl (lv_at0 hl) ?_
              refine pS hC hK hl (m_above4 l G) si_X12_348 rfl rfl (Nat.le_of_ble_eq_true rfl) rm_4_1_1 ⟨by first | exact Nat.le_of_ble_eq_true rfl | exact Nat.zero_le _, by first | exact Nat.le_of_ble_eq_true rfl | exact Nat.zero_le _⟩ gX12_taken_5.1 (Keqr ?_)
              refine lv_istore_n (lv' := [(3, .int 0), (0, .ref h0), (1, .int (nI jt)), (2, .int x2)]) hx hb gX12_taken_5.2.1 rfl hl (by decide) rfl (fun ls hl => ?_)
              refine lv_goto (tgt := 78) hx hb gX12_taken_5.2.2.1 (by decide) ?_
              refine lv_iload_n hx hb gX12_taken_4.2.2.2.2.1 rfl (lv_at0 hl) ?_
              refine lv_if_lt (tgt := 95) hx hb gX12_taken_4.2.2.2.2.2.1 (by decide) (fun c9 => absurd c9 (by decide)) (fun _ => ?_)
              refine lv_iload_n hx hb gX12_taken_4.2.2.2.2.2.2.1 rfl (lv_at0 hl) ?_
              refine lv_iload_n hx hb gX12_taken_4.2.2.2.2.2.2.2.1 rfl (lv_at3 hl) ?_
              refine lv_icmp_eq (tgt := 95) hx hb gX12_taken_4.2.2.2.2.2.2.2.2.1 (by decide) (fun c_84_6011 => ?_) (fun c_84_6011 => ?_)
              · refine lv_iload_n hx hb gX12_taken_5.2.2.2.1 rfl (lv_at0 hl) ?_
                refine lv_iload_n hx hb gX12_taken_5.2.2.2.2.1 rfl (lv_at3 hl) ?_
                refine lv_icmp_ne (tgt := 109) hx hb gX12_taken_5.2.2.2.2.2.1 (by decide) (fun c9 => absurd (c_84_6011) c9) (fun _ => ?_)
                refine lv_aload_n hx hb gX12_taken_5.2.2.2.2.2.2.1 rfl (lv_at1 hl) ?_
                refine gf_X12_75 hC rfl hK hP 0 rfl rfl gX12_taken_5.2.2.2.2.2.2.2.1 ?_
                refine lv_iload_n hx hb gX12_taken_5.2.2.2.2.2.2.2.2.1 rfl (lv_at2 hl) ?_
                refine aldN hC hK hP 3 rfl (k := jt) (by omega) (Nat.le_of_ble_eq_true rfl) (v := fnsf jt) rfl gX12_taken_5.2.2.2.2.2.2.2.2.2 ?_
                refine lv_goto (tgt := 111) hx hb gX12_taken_6.1 (by decide) ?_
                refine toQ hQ0 ?_
                exact RP (v := fnsf jt) hC ((by first | rfl | (simp only [nI_clamp (n := jt) (by omega), ifc_t ekq, ifc_t hkq, ifc_t ek8, ifc_t hk8, ifc_t ek9, ifc_t hk9, ifc_t hN, ifc_t a5924, ifc_f a5926, ifc_t a5980, ifc_f c_37_5981, ifc_f c_84_6008, ifc_t c_84_6011, ifc_t (q := Wi x2 0 6 ∨ Wi x2 10 14) (Or.inr a5980), a5983, ifc_f (q := (4 : Int32) < 0) (by decide), ifc_t (q := UNl (4 : Int32).toNatClampNeg x2) (show UNl 4 x2 from Or.inr (c_84_6011.symm))]; done) | (simp only [nI_clamp (n := jt) (by omega), ifc_t ekq, ifc_t hkq, ifc_t ek8, ifc_t hk8, ifc_t ek9, ifc_t hk9, ifc_t hN, ifc_t a5924, ifc_f a5926, ifc_t a5980, ifc_f c_37_5981, ifc_f c_84_6008, ifc_t c_84_6011, ifc_t (q := Wi x2 0 6 ∨ Wi x2 10 14) (Or.inr a5980), a5983, ifc_f (q := (4 : Int32) < 0) (by decide), ifc_t (q := UNl (4 : Int32).toNatClampNeg x2) (show UNl 4 x2 from Or.inr (c_84_6011.symm))]; rfl))) rfl gX12_taken_6.2.2
              · refine lv_iload_n hx hb gX12_taken_4.2.2.2.2.2.2.2.2.2 rfl (lv_at0 hl) ?_
                refine pS hC hK hl (m_above0 l G) si_X12_348 rfl rfl (Nat.le_of_ble_eq_true rfl) rm_4_1_1 ⟨by first | exact Nat.le_of_ble_eq_true rfl | exact Nat.zero_le _, by first | exact Nat.le_of_ble_eq_true rfl | exact Nat.zero_le _⟩ gX12_taken_5.1 (Keqr ?_)
                refine lv_istore_n (lv' := [(3, .int (-1)), (0, .ref h0), (1, .int (nI jt)), (2, .int x2)]) hx hb gX12_taken_5.2.1 rfl hl (by decide) rfl (fun ls hl => ?_)
                refine lv_goto (tgt := 78) hx hb gX12_taken_5.2.2.1 (by decide) ?_
                refine lv_iload_n hx hb gX12_taken_4.2.2.2.2.1 rfl (lv_at0 hl) ?_
                refine lv_if_lt (tgt := 95) hx hb gX12_taken_4.2.2.2.2.2.1 (by decide) (fun _ => ?_) (fun c9 => absurd (by decide) c9)
                refine lv_iload_n hx hb gX12_taken_5.2.2.2.1 rfl (lv_at0 hl) ?_
                refine lv_iload_n hx hb gX12_taken_5.2.2.2.2.1 rfl (lv_at3 hl) ?_
                refine lv_icmp_ne (tgt := 109) hx hb gX12_taken_5.2.2.2.2.2.1 (by decide) (fun c_97_6014 => ?_) (fun c_97_6014 => ?_)
                · refine lv_bipush (v := (-13)) hx hb gX12_taken_6.2.1 (by decide) ?_
                  refine toQ hQ0 ?_
                  exact RP (v := (-13)) hC ((by first | rfl | (simp only [nI_clamp (n := jt) (by omega), ifc_t ekq, ifc_t hkq, ifc_t ek8, ifc_t hk8, ifc_t ek9, ifc_t hk9, ifc_t hN, ifc_t a5924, ifc_f a5926, ifc_t a5980, ifc_f c_37_5981, ifc_f c_84_6008, ifc_f c_84_6011, ifc_f c_97_6014, ifc_t (q := Wi x2 0 6 ∨ Wi x2 10 14) (Or.inr a5980), a5983, ifc_f (q := (4 : Int32) < 0) (by decide), ifc_f (q := UNl (4 : Int32).toNatClampNeg x2) (fun h9 => (show False from by have h7 : x2 = 4 ∨ x2 = 0 := h9; rcases h7 with h8 | h8 <;> (first | exact c_84_6008 h8.symm | exact c_84_6011 h8.symm)))]; done) | (simp only [nI_clamp (n := jt) (by omega), ifc_t ekq, ifc_t hkq, ifc_t ek8, ifc_t hk8, ifc_t ek9, ifc_t hk9, ifc_t hN, ifc_t a5924, ifc_f a5926, ifc_t a5980, ifc_f c_37_5981, ifc_f c_84_6008, ifc_f c_84_6011, ifc_f c_97_6014, ifc_t (q := Wi x2 0 6 ∨ Wi x2 10 14) (Or.inr a5980), a5983, ifc_f (q := (4 : Int32) < 0) (by decide), ifc_f (q := UNl (4 : Int32).toNatClampNeg x2) (fun h9 => (show False from by have h7 : x2 = 4 ∨ x2 = 0 := h9; rcases h7 with h8 | h8 <;> (first | exact c_84_6008 h8.symm | exact c_84_6011 h8.symm)))]; rfl))) rfl gX12_taken_6.2.2
                · refine lv_aload_n hx hb gX12_taken_5.2.2.2.2.2.2.1 rfl (lv_at1 hl) ?_
                  refine gf_X12_75 hC rfl hK hP 0 rfl rfl gX12_taken_5.2.2.2.2.2.2.2.1 ?_
                  refine lv_iload_n hx hb gX12_taken_5.2.2.2.2.2.2.2.2.1 rfl (lv_at2 hl) ?_
                  refine aldN hC hK hP 3 rfl (k := jt) (by omega) (Nat.le_of_ble_eq_true rfl) (v := fnsf jt) rfl gX12_taken_5.2.2.2.2.2.2.2.2.2 ?_
                  refine lv_goto (tgt := 111) hx hb gX12_taken_6.1 (by decide) ?_
                  refine toQ hQ0 ?_
                  exact RP (v := fnsf jt) hC ((absurd a5980 (by rw [← c_97_6014]; unfold Wi; decide))) rfl gX12_taken_6.2.2
          · refine lv_istore_n (lv' := [(3, .int 5), (0, .ref h0), (1, .int (nI jt)), (2, .int x2)]) hx hb gX12_taken_3.2.2.2.2.2.2.2.2.2 rfl hl (by decide) rfl (fun ls hl => ?_)
            refine lv_iload_n hx hb gX12_taken_4.1 rfl (lv_at0 hl) ?_
            refine lv_if_ge (tgt := 78) hx hb gX12_taken_4.2.1 (by decide) (fun _ => ?_) (fun c9 => absurd (by decide) c9)
            refine lv_iload_n hx hb gX12_taken_4.2.2.2.2.1 rfl (lv_at0 hl) ?_
            refine lv_if_lt (tgt := 95) hx hb gX12_taken_4.2.2.2.2.2.1 (by decide) (fun c9 => absurd c9 (by decide)) (fun _ => ?_)
            refine lv_iload_n hx hb gX12_taken_4.2.2.2.2.2.2.1 rfl (lv_at0 hl) ?_
            refine lv_iload_n hx hb gX12_taken_4.2.2.2.2.2.2.2.1 rfl (lv_at3 hl) ?_
            refine lv_icmp_eq (tgt := 95) hx hb gX12_taken_4.2.2.2.2.2.2.2.2.1 (by decide) (fun c_84_6015 => ?_) (fun c_84_6015 => ?_)
            · refine lv_iload_n hx hb gX12_taken_5.2.2.2.1 rfl (lv_at0 hl) ?_
              refine lv_iload_n hx hb gX12_taken_5.2.2.2.2.1 rfl (lv_at3 hl) ?_
              refine lv_icmp_ne (tgt := 109) hx hb gX12_taken_5.2.2.2.2.2.1 (by decide) (fun c9 => absurd (c_84_6015) c9) (fun _ => ?_)
              refine lv_aload_n hx hb gX12_taken_5.2.2.2.2.2.2.1 rfl (lv_at1 hl) ?_
              refine gf_X12_75 hC rfl hK hP 0 rfl rfl gX12_taken_5.2.2.2.2.2.2.2.1 ?_
              refine lv_iload_n hx hb gX12_taken_5.2.2.2.2.2.2.2.2.1 rfl (lv_at2 hl) ?_
              refine aldN hC hK hP 3 rfl (k := jt) (by omega) (Nat.le_of_ble_eq_true rfl) (v := fnsf jt) rfl gX12_taken_5.2.2.2.2.2.2.2.2.2 ?_
              refine lv_goto (tgt := 111) hx hb gX12_taken_6.1 (by decide) ?_
              refine toQ hQ0 ?_
              exact RP (v := fnsf jt) hC ((by first | rfl | (simp only [nI_clamp (n := jt) (by omega), ifc_t ekq, ifc_t hkq, ifc_t ek8, ifc_t hk8, ifc_t ek9, ifc_t hk9, ifc_t hN, ifc_t a5924, ifc_f a5926, ifc_t a5980, ifc_f c_37_5981, ifc_t c_84_6015, ifc_t (q := Wi x2 0 6 ∨ Wi x2 10 14) (Or.inr a5980), a5983, ifc_f (q := (5 : Int32) < 0) (by decide), ifc_t (q := UNl (5 : Int32).toNatClampNeg x2) (show UNl 5 x2 from Or.inl (c_84_6015.symm))]; done) | (simp only [nI_clamp (n := jt) (by omega), ifc_t ekq, ifc_t hkq, ifc_t ek8, ifc_t hk8, ifc_t ek9, ifc_t hk9, ifc_t hN, ifc_t a5924, ifc_f a5926, ifc_t a5980, ifc_f c_37_5981, ifc_t c_84_6015, ifc_t (q := Wi x2 0 6 ∨ Wi x2 10 14) (Or.inr a5980), a5983, ifc_f (q := (5 : Int32) < 0) (by decide), ifc_t (q := UNl (5 : Int32).toNatClampNeg x2) (show UNl 5 x2 from Or.inl (c_84_6015.symm))]; rfl))) rfl gX12_taken_6.2.2
            · refine lv_iload_n hx hb gX12_taken_4.2.2.2.2.2.2.2.2.2 rfl (lv_at0 hl) ?_
              refine pS hC hK hl (m_above5 l G) si_X12_348 rfl rfl (Nat.le_of_ble_eq_true rfl) rm_4_1_1 ⟨by first | exact Nat.le_of_ble_eq_true rfl | exact Nat.zero_le _, by first | exact Nat.le_of_ble_eq_true rfl | exact Nat.zero_le _⟩ gX12_taken_5.1 (Keqr ?_)
              refine lv_istore_n (lv' := [(3, .int 4), (0, .ref h0), (1, .int (nI jt)), (2, .int x2)]) hx hb gX12_taken_5.2.1 rfl hl (by decide) rfl (fun ls hl => ?_)
              refine lv_goto (tgt := 78) hx hb gX12_taken_5.2.2.1 (by decide) ?_
              refine lv_iload_n hx hb gX12_taken_4.2.2.2.2.1 rfl (lv_at0 hl) ?_
              refine lv_if_lt (tgt := 95) hx hb gX12_taken_4.2.2.2.2.2.1 (by decide) (fun c9 => absurd c9 (by decide)) (fun _ => ?_)
              refine lv_iload_n hx hb gX12_taken_4.2.2.2.2.2.2.1 rfl (lv_at0 hl) ?_
              refine lv_iload_n hx hb gX12_taken_4.2.2.2.2.2.2.2.1 rfl (lv_at3 hl) ?_
              refine lv_icmp_eq (tgt := 95) hx hb gX12_taken_4.2.2.2.2.2.2.2.2.1 (by decide) (fun c_84_6018 => ?_) (fun c_84_6018 => ?_)
              · refine lv_iload_n hx hb gX12_taken_5.2.2.2.1 rfl (lv_at0 hl) ?_
                refine lv_iload_n hx hb gX12_taken_5.2.2.2.2.1 rfl (lv_at3 hl) ?_
                refine lv_icmp_ne (tgt := 109) hx hb gX12_taken_5.2.2.2.2.2.1 (by decide) (fun c9 => absurd (c_84_6018) c9) (fun _ => ?_)
                refine lv_aload_n hx hb gX12_taken_5.2.2.2.2.2.2.1 rfl (lv_at1 hl) ?_
                refine gf_X12_75 hC rfl hK hP 0 rfl rfl gX12_taken_5.2.2.2.2.2.2.2.1 ?_
                refine lv_iload_n hx hb gX12_taken_5.2.2.2.2.2.2.2.2.1 rfl (lv_at2 hl) ?_
                refine aldN hC hK hP 3 rfl (k := jt) (by omega) (Nat.le_of_ble_eq_true rfl) (v := fnsf jt) rfl gX12_taken_5.2.2.2.2.2.2.2.2.2 ?_
                refine lv_goto (tgt := 111) hx hb gX12_taken_6.1 (by decide) ?_
                refine toQ hQ0 ?_
                exact RP (v := fnsf jt) hC ((by first | rfl | (simp only [nI_clamp (n := jt) (by omega), ifc_t ekq, ifc_t hkq, ifc_t ek8, ifc_t hk8, ifc_t ek9, ifc_t hk9, ifc_t hN, ifc_t a5924, ifc_f a5926, ifc_t a5980, ifc_f c_37_5981, ifc_f c_84_6015, ifc_t c_84_6018, ifc_t (q := Wi x2 0 6 ∨ Wi x2 10 14) (Or.inr a5980), a5983, ifc_f (q := (5 : Int32) < 0) (by decide), ifc_t (q := UNl (5 : Int32).toNatClampNeg x2) (show UNl 5 x2 from Or.inr (Or.inl (c_84_6018.symm)))]; done) | (simp only [nI_clamp (n := jt) (by omega), ifc_t ekq, ifc_t hkq, ifc_t ek8, ifc_t hk8, ifc_t ek9, ifc_t hk9, ifc_t hN, ifc_t a5924, ifc_f a5926, ifc_t a5980, ifc_f c_37_5981, ifc_f c_84_6015, ifc_t c_84_6018, ifc_t (q := Wi x2 0 6 ∨ Wi x2 10 14) (Or.inr a5980), a5983, ifc_f (q := (5 : Int32) < 0) (by decide), ifc_t (q := UNl (5 : Int32).toNatClampNeg x2) (show UNl 5 x2 from Or.inr (Or.inl (c_84_6018.symm)))]; rfl))) rfl gX12_taken_6.2.2
              · refine lv_iload_n hx hb gX12_taken_4.2.2.2.2.2.2.2.2.2 rfl (lv_at0 hl) ?_
                refine pS hC hK hl (m_above4 l G) si_X12_348 rfl rfl (Nat.le_of_ble_eq_true rfl) rm_4_1_1 ⟨by first | exact Nat.le_of_ble_eq_true rfl | exact Nat.zero_le _, by first | exact Nat.le_of_ble_eq_true rfl | exact Nat.zero_le _⟩ gX12_taken_5.1 (Keqr ?_)
                refine lv_istore_n (lv' := [(3, .int 0), (0, .ref h0), (1, .int (nI jt)), (2, .int x2)]) hx hb gX12_taken_5.2.1 rfl hl (by decide) rfl (fun ls hl => ?_)
                refine lv_goto (tgt := 78) hx hb gX12_taken_5.2.2.1 (by decide) ?_
                refine lv_iload_n hx hb gX12_taken_4.2.2.2.2.1 rfl (lv_at0 hl) ?_
                refine lv_if_lt (tgt := 95) hx hb gX12_taken_4.2.2.2.2.2.1 (by decide) (fun c9 => absurd c9 (by decide)) (fun _ => ?_)
                refine lv_iload_n hx hb gX12_taken_4.2.2.2.2.2.2.1 rfl (lv_at0 hl) ?_
                refine lv_iload_n hx hb gX12_taken_4.2.2.2.2.2.2.2.1 rfl (lv_at3 hl) ?_
                refine lv_icmp_eq (tgt := 95) hx hb gX12_taken_4.2.2.2.2.2.2.2.2.1 (by decide) (fun c_84_6021 => ?_) (fun c_84_6021 => ?_)
                · refine lv_iload_n hx hb gX12_taken_5.2.2.2.1 rfl (lv_at0 hl) ?_
                  refine lv_iload_n hx hb gX12_taken_5.2.2.2.2.1 rfl (lv_at3 hl) ?_
                  refine lv_icmp_ne (tgt := 109) hx hb gX12_taken_5.2.2.2.2.2.1 (by decide) (fun c9 => absurd (c_84_6021) c9) (fun _ => ?_)
                  refine lv_aload_n hx hb gX12_taken_5.2.2.2.2.2.2.1 rfl (lv_at1 hl) ?_
                  refine gf_X12_75 hC rfl hK hP 0 rfl rfl gX12_taken_5.2.2.2.2.2.2.2.1 ?_
                  refine lv_iload_n hx hb gX12_taken_5.2.2.2.2.2.2.2.2.1 rfl (lv_at2 hl) ?_
                  refine aldN hC hK hP 3 rfl (k := jt) (by omega) (Nat.le_of_ble_eq_true rfl) (v := fnsf jt) rfl gX12_taken_5.2.2.2.2.2.2.2.2.2 ?_
                  refine lv_goto (tgt := 111) hx hb gX12_taken_6.1 (by decide) ?_
                  refine toQ hQ0 ?_
                  exact RP (v := fnsf jt) hC ((by first | rfl | (simp only [nI_clamp (n := jt) (by omega), ifc_t ekq, ifc_t hkq, ifc_t ek8, ifc_t hk8, ifc_t ek9, ifc_t hk9, ifc_t hN, ifc_t a5924, ifc_f a5926, ifc_t a5980, ifc_f c_37_5981, ifc_f c_84_6015, ifc_f c_84_6018, ifc_t c_84_6021, ifc_t (q := Wi x2 0 6 ∨ Wi x2 10 14) (Or.inr a5980), a5983, ifc_f (q := (5 : Int32) < 0) (by decide), ifc_t (q := UNl (5 : Int32).toNatClampNeg x2) (show UNl 5 x2 from Or.inr (Or.inr (c_84_6021.symm)))]; done) | (simp only [nI_clamp (n := jt) (by omega), ifc_t ekq, ifc_t hkq, ifc_t ek8, ifc_t hk8, ifc_t ek9, ifc_t hk9, ifc_t hN, ifc_t a5924, ifc_f a5926, ifc_t a5980, ifc_f c_37_5981, ifc_f c_84_6015, ifc_f c_84_6018, ifc_t c_84_6021, ifc_t (q := Wi x2 0 6 ∨ Wi x2 10 14) (Or.inr a5980), a5983, ifc_f (q := (5 : Int32) < 0) (by decide), ifc_t (q := UNl (5 : Int32).toNatClampNeg x2) (show UNl 5 x2 from Or.inr (Or.inr (c_84_6021.symm)))]; rfl))) rfl gX12_taken_6.2.2
                · refine lv_iload_n hx hb gX12_taken_4.2.2.2.2.2.2.2.2.2 rfl (lv_at0 hl) ?_
                  refine pS hC hK hl (m_above0 l G) si_X12_348 rfl rfl (Nat.le_of_ble_eq_true rfl) rm_4_1_1 ⟨by first | exact Nat.le_of_ble_eq_true rfl | exact Nat.zero_le _, by first | exact Nat.le_of_ble_eq_true rfl | exact Nat.zero_le _⟩ gX12_taken_5.1 (Keqr ?_)
                  refine lv_istore_n (lv' := [(3, .int (-1)), (0, .ref h0), (1, .int (nI jt)), (2, .int x2)]) hx hb gX12_taken_5.2.1 rfl hl (by decide) rfl (fun ls hl => ?_)
                  refine lv_goto (tgt := 78) hx hb gX12_taken_5.2.2.1 (by decide) ?_
                  refine lv_iload_n hx hb gX12_taken_4.2.2.2.2.1 rfl (lv_at0 hl) ?_
                  refine lv_if_lt (tgt := 95) hx hb gX12_taken_4.2.2.2.2.2.1 (by decide) (fun _ => ?_) (fun c9 => absurd (by decide) c9)
                  refine lv_iload_n hx hb gX12_taken_5.2.2.2.1 rfl (lv_at0 hl) ?_
                  refine lv_iload_n hx hb gX12_taken_5.2.2.2.2.1 rfl (lv_at3 hl) ?_
                  refine lv_icmp_ne (tgt := 109) hx hb gX12_taken_5.2.2.2.2.2.1 (by decide) (fun c_97_6024 => ?_) (fun c_97_6024 => ?_)
                  · refine lv_bipush (v := (-13)) hx hb gX12_taken_6.2.1 (by decide) ?_
                    refine toQ hQ0 ?_
                    exact RP (v := (-13)) hC ((by first | rfl | (simp only [nI_clamp (n := jt) (by omega), ifc_t ekq, ifc_t hkq, ifc_t ek8, ifc_t hk8, ifc_t ek9, ifc_t hk9, ifc_t hN, ifc_t a5924, ifc_f a5926, ifc_t a5980, ifc_f c_37_5981, ifc_f c_84_6015, ifc_f c_84_6018, ifc_f c_84_6021, ifc_f c_97_6024, ifc_t (q := Wi x2 0 6 ∨ Wi x2 10 14) (Or.inr a5980), a5983, ifc_f (q := (5 : Int32) < 0) (by decide), ifc_f (q := UNl (5 : Int32).toNatClampNeg x2) (fun h9 => (show False from by have h7 : x2 = 5 ∨ x2 = 4 ∨ x2 = 0 := h9; rcases h7 with h8 | h8 | h8 <;> (first | exact c_84_6015 h8.symm | exact c_84_6018 h8.symm | exact c_84_6021 h8.symm)))]; done) | (simp only [nI_clamp (n := jt) (by omega), ifc_t ekq, ifc_t hkq, ifc_t ek8, ifc_t hk8, ifc_t ek9, ifc_t hk9, ifc_t hN, ifc_t a5924, ifc_f a5926, ifc_t a5980, ifc_f c_37_5981, ifc_f c_84_6015, ifc_f c_84_6018, ifc_f c_84_6021, ifc_f c_97_6024, ifc_t (q := Wi x2 0 6 ∨ Wi x2 10 14) (Or.inr a5980), a5983, ifc_f (q := (5 : Int32) < 0) (by decide), ifc_f (q := UNl (5 : Int32).toNatClampNeg x2) (fun h9 => (show False from by have h7 : x2 = 5 ∨ x2 = 4 ∨ x2 = 0 := h9; rcases h7 with h8 | h8 | h8 <;> (first | exact c_84_6015 h8.symm | exact c_84_6018 h8.symm | exact c_84_6021 h8.symm)))]; rfl))) rfl gX12_taken_6.2.2
                  · refine lv_aload_n hx hb gX12_taken_5.2.2.2.2.2.2.1 rfl (lv_at1 hl) ?_
                    refine gf_X12_75 hC rfl hK hP 0 rfl rfl gX12_taken_5.2.2.2.2.2.2.2.1 ?_
                    refine lv_iload_n hx hb gX12_taken_5.2.2.2.2.2.2.2.2.1 rfl (lv_at2 hl) ?_
                    refine aldN hC hK hP 3 rfl (k := jt) (by omega) (Nat.le_of_ble_eq_true rfl) (v := fnsf jt) rfl gX12_taken_5.2.2.2.2.2.2.2.2.2 ?_
                    refine lv_goto (tgt := 111) hx hb gX12_taken_6.1 (by decide) ?_
                    refine toQ hQ0 ?_
                    exact RP (v := fnsf jt) hC ((absurd a5980 (by rw [← c_97_6024]; unfold Wi; decide))) rfl gX12_taken_6.2.2
          · refine lv_istore_n (lv' := [(3, .int 6), (0, .ref h0), (1, .int (nI jt)), (2, .int x2)]) hx hb gX12_taken_3.2.2.2.2.2.2.2.2.2 rfl hl (by decide) rfl (fun ls hl => ?_)
            refine lv_iload_n hx hb gX12_taken_4.1 rfl (lv_at0 hl) ?_
            refine lv_if_ge (tgt := 78) hx hb gX12_taken_4.2.1 (by decide) (fun _ => ?_) (fun c9 => absurd (by decide) c9)
            refine lv_iload_n hx hb gX12_taken_4.2.2.2.2.1 rfl (lv_at0 hl) ?_
            refine lv_if_lt (tgt := 95) hx hb gX12_taken_4.2.2.2.2.2.1 (by decide) (fun c9 => absurd c9 (by decide)) (fun _ => ?_)
            refine lv_iload_n hx hb gX12_taken_4.2.2.2.2.2.2.1 rfl (lv_at0 hl) ?_
            refine lv_iload_n hx hb gX12_taken_4.2.2.2.2.2.2.2.1 rfl (lv_at3 hl) ?_
            refine lv_icmp_eq (tgt := 95) hx hb gX12_taken_4.2.2.2.2.2.2.2.2.1 (by decide) (fun c_84_6025 => ?_) (fun c_84_6025 => ?_)
            · refine lv_iload_n hx hb gX12_taken_5.2.2.2.1 rfl (lv_at0 hl) ?_
              refine lv_iload_n hx hb gX12_taken_5.2.2.2.2.1 rfl (lv_at3 hl) ?_
              refine lv_icmp_ne (tgt := 109) hx hb gX12_taken_5.2.2.2.2.2.1 (by decide) (fun c9 => absurd (c_84_6025) c9) (fun _ => ?_)
              refine lv_aload_n hx hb gX12_taken_5.2.2.2.2.2.2.1 rfl (lv_at1 hl) ?_
              refine gf_X12_75 hC rfl hK hP 0 rfl rfl gX12_taken_5.2.2.2.2.2.2.2.1 ?_
              refine lv_iload_n hx hb gX12_taken_5.2.2.2.2.2.2.2.2.1 rfl (lv_at2 hl) ?_
              refine aldN hC hK hP 3 rfl (k := jt) (by omega) (Nat.le_of_ble_eq_true rfl) (v := fnsf jt) rfl gX12_taken_5.2.2.2.2.2.2.2.2.2 ?_
              refine lv_goto (tgt := 111) hx hb gX12_taken_6.1 (by decide) ?_
              refine toQ hQ0 ?_
              exact RP (v := fnsf jt) hC ((by first | rfl | (simp only [nI_clamp (n := jt) (by omega), ifc_t ekq, ifc_t hkq, ifc_t ek8, ifc_t hk8, ifc_t ek9, ifc_t hk9, ifc_t hN, ifc_t a5924, ifc_f a5926, ifc_t a5980, ifc_f c_37_5981, ifc_t c_84_6025, ifc_t (q := Wi x2 0 6 ∨ Wi x2 10 14) (Or.inr a5980), a5983, ifc_f (q := (6 : Int32) < 0) (by decide), ifc_t (q := UNl (6 : Int32).toNatClampNeg x2) (show UNl 6 x2 from Or.inl (c_84_6025.symm))]; done) | (simp only [nI_clamp (n := jt) (by omega), ifc_t ekq, ifc_t hkq, ifc_t ek8, ifc_t hk8, ifc_t ek9, ifc_t hk9, ifc_t hN, ifc_t a5924, ifc_f a5926, ifc_t a5980, ifc_f c_37_5981, ifc_t c_84_6025, ifc_t (q := Wi x2 0 6 ∨ Wi x2 10 14) (Or.inr a5980), a5983, ifc_f (q := (6 : Int32) < 0) (by decide), ifc_t (q := UNl (6 : Int32).toNatClampNeg x2) (show UNl 6 x2 from Or.inl (c_84_6025.symm))]; rfl))) rfl gX12_taken_6.2.2
            · refine lv_iload_n hx hb gX12_taken_4.2.2.2.2.2.2.2.2.2 rfl (lv_at0 hl) ?_
              refine pS hC hK hl (m_above6 l G) si_X12_348 rfl rfl (Nat.le_of_ble_eq_true rfl) rm_4_1_1 ⟨by first | exact Nat.le_of_ble_eq_true rfl | exact Nat.zero_le _, by first | exact Nat.le_of_ble_eq_true rfl | exact Nat.zero_le _⟩ gX12_taken_5.1 (Keqr ?_)
              refine lv_istore_n (lv' := [(3, .int 0), (0, .ref h0), (1, .int (nI jt)), (2, .int x2)]) hx hb gX12_taken_5.2.1 rfl hl (by decide) rfl (fun ls hl => ?_)
              refine lv_goto (tgt := 78) hx hb gX12_taken_5.2.2.1 (by decide) ?_
              refine lv_iload_n hx hb gX12_taken_4.2.2.2.2.1 rfl (lv_at0 hl) ?_
              refine lv_if_lt (tgt := 95) hx hb gX12_taken_4.2.2.2.2.2.1 (by decide) (fun c9 => absurd c9 (by decide)) (fun _ => ?_)
              refine lv_iload_n hx hb gX12_taken_4.2.2.2.2.2.2.1 rfl (lv_at0 hl) ?_
              refine lv_iload_n hx hb gX12_taken_4.2.2.2.2.2.2.2.1 rfl (lv_at3 hl) ?_
              refine lv_icmp_eq (tgt := 95) hx hb gX12_taken_4.2.2.2.2.2.2.2.2.1 (by decide) (fun c_84_6028 => ?_) (fun c_84_6028 => ?_)
              · refine lv_iload_n hx hb gX12_taken_5.2.2.2.1 rfl (lv_at0 hl) ?_
                refine lv_iload_n hx hb gX12_taken_5.2.2.2.2.1 rfl (lv_at3 hl) ?_
                refine lv_icmp_ne (tgt := 109) hx hb gX12_taken_5.2.2.2.2.2.1 (by decide) (fun c9 => absurd (c_84_6028) c9) (fun _ => ?_)
                refine lv_aload_n hx hb gX12_taken_5.2.2.2.2.2.2.1 rfl (lv_at1 hl) ?_
                refine gf_X12_75 hC rfl hK hP 0 rfl rfl gX12_taken_5.2.2.2.2.2.2.2.1 ?_
                refine lv_iload_n hx hb gX12_taken_5.2.2.2.2.2.2.2.2.1 rfl (lv_at2 hl) ?_
                refine aldN hC hK hP 3 rfl (k := jt) (by omega) (Nat.le_of_ble_eq_true rfl) (v := fnsf jt) rfl gX12_taken_5.2.2.2.2.2.2.2.2.2 ?_
                refine lv_goto (tgt := 111) hx hb gX12_taken_6.1 (by decide) ?_
                refine toQ hQ0 ?_
                exact RP (v := fnsf jt) hC ((by first | rfl | (simp only [nI_clamp (n := jt) (by omega), ifc_t ekq, ifc_t hkq, ifc_t ek8, ifc_t hk8, ifc_t ek9, ifc_t hk9, ifc_t hN, ifc_t a5924, ifc_f a5926, ifc_t a5980, ifc_f c_37_5981, ifc_f c_84_6025, ifc_t c_84_6028, ifc_t (q := Wi x2 0 6 ∨ Wi x2 10 14) (Or.inr a5980), a5983, ifc_f (q := (6 : Int32) < 0) (by decide), ifc_t (q := UNl (6 : Int32).toNatClampNeg x2) (show UNl 6 x2 from Or.inr (c_84_6028.symm))]; done) | (simp only [nI_clamp (n := jt) (by omega), ifc_t ekq, ifc_t hkq, ifc_t ek8, ifc_t hk8, ifc_t ek9, ifc_t hk9, ifc_t hN, ifc_t a5924, ifc_f a5926, ifc_t a5980, ifc_f c_37_5981, ifc_f c_84_6025, ifc_t c_84_6028, ifc_t (q := Wi x2 0 6 ∨ Wi x2 10 14) (Or.inr a5980), a5983, ifc_f (q := (6 : Int32) < 0) (by decide), ifc_t (q := UNl (6 : Int32).toNatClampNeg x2) (show UNl 6 x2 from Or.inr (c_84_6028.symm))]; rfl))) rfl gX12_taken_6.2.2
              · refine lv_iload_n hx hb gX12_taken_4.2.2.2.2.2.2.2.2.2 rfl (lv_at0 hl) ?_
                refine pS hC hK hl (m_above0 l G) si_X12_348 rfl rfl (Nat.le_of_ble_eq_true rfl) rm_4_1_1 ⟨by first | exact Nat.le_of_ble_eq_true rfl | exact Nat.zero_le _, by first | exact Nat.le_of_ble_eq_true rfl | exact Nat.zero_le _⟩ gX12_taken_5.1 (Keqr ?_)
                refine lv_istore_n (lv' := [(3, .int (-1)), (0, .ref h0), (1, .int (nI jt)), (2, .int x2)]) hx hb gX12_taken_5.2.1 rfl hl (by decide) rfl (fun ls hl => ?_)
                refine lv_goto (tgt := 78) hx hb gX12_taken_5.2.2.1 (by decide) ?_
                refine lv_iload_n hx hb gX12_taken_4.2.2.2.2.1 rfl (lv_at0 hl) ?_
                refine lv_if_lt (tgt := 95) hx hb gX12_taken_4.2.2.2.2.2.1 (by decide) (fun _ => ?_) (fun c9 => absurd (by decide) c9)
                refine lv_iload_n hx hb gX12_taken_5.2.2.2.1 rfl (lv_at0 hl) ?_
                refine lv_iload_n hx hb gX12_taken_5.2.2.2.2.1 rfl (lv_at3 hl) ?_
                refine lv_icmp_ne (tgt := 109) hx hb gX12_taken_5.2.2.2.2.2.1 (by decide) (fun c_97_6031 => ?_) (fun c_97_6031 => ?_)
                · refine lv_bipush (v := (-13)) hx hb gX12_taken_6.2.1 (by decide) ?_
                  refine toQ hQ0 ?_
                  exact RP (v := (-13)) hC ((by first | rfl | (simp only [nI_clamp (n := jt) (by omega), ifc_t ekq, ifc_t hkq, ifc_t ek8, ifc_t hk8, ifc_t ek9, ifc_t hk9, ifc_t hN, ifc_t a5924, ifc_f a5926, ifc_t a5980, ifc_f c_37_5981, ifc_f c_84_6025, ifc_f c_84_6028, ifc_f c_97_6031, ifc_t (q := Wi x2 0 6 ∨ Wi x2 10 14) (Or.inr a5980), a5983, ifc_f (q := (6 : Int32) < 0) (by decide), ifc_f (q := UNl (6 : Int32).toNatClampNeg x2) (fun h9 => (show False from by have h7 : x2 = 6 ∨ x2 = 0 := h9; rcases h7 with h8 | h8 <;> (first | exact c_84_6025 h8.symm | exact c_84_6028 h8.symm)))]; done) | (simp only [nI_clamp (n := jt) (by omega), ifc_t ekq, ifc_t hkq, ifc_t ek8, ifc_t hk8, ifc_t ek9, ifc_t hk9, ifc_t hN, ifc_t a5924, ifc_f a5926, ifc_t a5980, ifc_f c_37_5981, ifc_f c_84_6025, ifc_f c_84_6028, ifc_f c_97_6031, ifc_t (q := Wi x2 0 6 ∨ Wi x2 10 14) (Or.inr a5980), a5983, ifc_f (q := (6 : Int32) < 0) (by decide), ifc_f (q := UNl (6 : Int32).toNatClampNeg x2) (fun h9 => (show False from by have h7 : x2 = 6 ∨ x2 = 0 := h9; rcases h7 with h8 | h8 <;> (first | exact c_84_6025 h8.symm | exact c_84_6028 h8.symm)))]; rfl))) rfl gX12_taken_6.2.2
                · refine lv_aload_n hx hb gX12_taken_5.2.2.2.2.2.2.1 rfl (lv_at1 hl) ?_
                  refine gf_X12_75 hC rfl hK hP 0 rfl rfl gX12_taken_5.2.2.2.2.2.2.2.1 ?_
                  refine lv_iload_n hx hb gX12_taken_5.2.2.2.2.2.2.2.2.1 rfl (lv_at2 hl) ?_
                  refine aldN hC hK hP 3 rfl (k := jt) (by omega) (Nat.le_of_ble_eq_true rfl) (v := fnsf jt) rfl gX12_taken_5.2.2.2.2.2.2.2.2.2 ?_
                  refine lv_goto (tgt := 111) hx hb gX12_taken_6.1 (by decide) ?_
                  refine toQ hQ0 ?_
                  exact RP (v := fnsf jt) hC ((absurd a5980 (by rw [← c_97_6031]; unfold Wi; decide))) rfl gX12_taken_6.2.2
        · refine lv_iload_n hx hb gX12_taken_2.2.1 rfl (lv_at2 hl) ?_
          refine lv_bipush (v := 10) hx hb gX12_taken_2.2.2.1 (by decide) ?_
          refine lv_isub hx hb gX12_taken_2.2.2.2.1 ?_
          refine lv_aload_n hx hb gX12_taken_2.2.2.2.2.1 rfl (lv_at0 hl) ?_
          refine gf_X12_75 hC rfl hK hP 0 rfl rfl gX12_taken_2.2.2.2.2.2.1 ?_
          refine lv_iload_n hx hb gX12_taken_2.2.2.2.2.2.2.1 rfl (lv_at1 hl) ?_
          refine aldN hC hK hP 3 rfl (k := jt) (by omega) (Nat.le_of_ble_eq_true rfl) (v := fnsf jt) rfl gX12_taken_2.2.2.2.2.2.2.2.1 ?_
          refine lv_icmp_ne (tgt := 62) hx hb gX12_taken_2.2.2.2.2.2.2.2.2.1 (by decide) (fun c_50_6032 => ?_) (fun c_50_6032 => ?_)
          · refine lv_bipush (v := (-13)) hx hb gX12_taken_3.2.2.2.2.1 (by decide) ?_
            refine toQ hQ0 ?_
            exact RP (v := (-13)) hC ((by first | rfl | (simp only [nI_clamp (n := jt) (by omega), ifc_t ekq, ifc_t hkq, ifc_t ek8, ifc_t hk8, ifc_t ek9, ifc_t hk9, ifc_t hN, ifc_t a5924, ifc_f a5926, ifc_t a5980, ifc_t c_37_5981, ifc_f c_50_6032, ifc_t (q := Wi x2 0 6 ∨ Wi x2 10 14) (Or.inr a5980)]; done) | (simp only [nI_clamp (n := jt) (by omega), ifc_t ekq, ifc_t hkq, ifc_t ek8, ifc_t hk8, ifc_t ek9, ifc_t hk9, ifc_t hN, ifc_t a5924, ifc_f a5926, ifc_t a5980, ifc_t c_37_5981, ifc_f c_50_6032, ifc_t (q := Wi x2 0 6 ∨ Wi x2 10 14) (Or.inr a5980)]; rfl))) rfl gX12_taken_3.2.2.2.2.2.1
          · refine lv_aload_n hx hb gX12_taken_2.2.2.2.2.2.2.2.2.2 rfl (lv_at0 hl) ?_
            refine gf_X12_78 hC rfl hK hP 0 rfl rfl gX12_taken_3.1 ?_
            refine lv_iload_n hx hb gX12_taken_3.2.1 rfl (lv_at1 hl) ?_
            refine aldN hC hK hP 4 rfl (k := jt) (by omega) (Nat.le_of_ble_eq_true rfl) (v := fnss jt) rfl gX12_taken_3.2.2.1 ?_
            refine lv_goto (tgt := 64) hx hb gX12_taken_3.2.2.2.1 (by decide) ?_
            refine toQ hQ0 ?_
            exact RP (v := fnss jt) hC ((by first | rfl | (simp only [nI_clamp (n := jt) (by omega), ifc_t ekq, ifc_t hkq, ifc_t ek8, ifc_t hk8, ifc_t ek9, ifc_t hk9, ifc_t hN, ifc_t a5924, ifc_f a5926, ifc_t a5980, ifc_t c_37_5981, ifc_t c_50_6032, ifc_t (q := Wi x2 0 6 ∨ Wi x2 10 14) (Or.inr a5980)]; done) | (simp only [nI_clamp (n := jt) (by omega), ifc_t ekq, ifc_t hkq, ifc_t ek8, ifc_t hk8, ifc_t ek9, ifc_t hk9, ifc_t hN, ifc_t a5924, ifc_f a5926, ifc_t a5980, ifc_t c_37_5981, ifc_t c_50_6032, ifc_t (q := Wi x2 0 6 ∨ Wi x2 10 14) (Or.inr a5980)]; rfl))) rfl gX12_taken_3.2.2.2.2.2.1
      · refine lv_if_ne (tgt := 30) hx hb gX12_taken_1.2.2.1 (by decide) (fun c9 => absurd (by decide) c9) (fun _ => ?_)
        refine lv_iconst (v := (-1)) hx hb gX12_taken_1.2.2.2.1 (by decide) ?_
        refine toQ hQ0 ?_
        exact RP (v := (-1)) hC ((by first | rfl | (simp only [ifc_t ekq, ifc_t hkq, ifc_t ek8, ifc_t hk8, ifc_t ek9, ifc_t hk9, ifc_t hN, ifc_t a5924, ifc_f a5926, ifc_f a5980, ifc_f (q := Wi x2 0 6 ∨ Wi x2 10 14) (not_or.mpr ⟨a5926, a5980⟩)]; done) | (simp only [ifc_t ekq, ifc_t hkq, ifc_t ek8, ifc_t hk8, ifc_t ek9, ifc_t hk9, ifc_t hN, ifc_t a5924, ifc_f a5926, ifc_f a5980, ifc_f (q := Wi x2 0 6 ∨ Wi x2 10 14) (not_or.mpr ⟨a5926, a5980⟩)]; rfl))) rfl gX12_taken_1.2.2.2.2.1
  · refine lv_if_eq (tgt := 28) hx hb gX12_taken_0.2.2.1 (by decide) (fun _ => ?_) (fun c9 => absurd (by decide) c9)
    refine lv_iconst (v := (-1)) hx hb gX12_taken_1.2.2.2.1 (by decide) ?_
    refine toQ hQ0 ?_
    exact RP (v := (-1)) hC ((by first | rfl | (simp only [ifc_t ekq, ifc_t hkq, ifc_t ek8, ifc_t hk8, ifc_t ek9, ifc_t hk9, ifc_t hN, ifc_f a5924]; done) | (simp only [ifc_t ekq, ifc_t hkq, ifc_t ek8, ifc_t hk8, ifc_t ek9, ifc_t hk9, ifc_t hN, ifc_f a5924]; rfl))) rfl gX12_taken_1.2.2.2.2.1
def K_m_began (l : Launch) (G : GG) (h0 : Nat) (bo : Int32) (nw : Nat) (nk : Nat) (mhasKept : Int32) (nt : Nat) (mtaped : Int32) (nr : Nat) (mrowMany : Int32) (mroundOf : Int32) (mroundFrom : Int32) (mouts : Int32) (nm : Nat) (mfromHour : Int32) (mtoHour : Int32) (ns : Nat) (mfrom : Int32) (mto : Int32) (msort : Int32) (misFault : Int32) (mdeep : Int32) (mcoded : Int32) (mlines : Int32) (nl : Nat) (nc : Nat) (nF : Nat) (np : Nat) (ntr : Nat) (nb : Nat) (mbestCost : Int32) (nso : Nat) (nsi : Nat) (nit : Nat) (nsh : Nat) (nsf : Nat) (nss : Nat) (nrc : Nat) (jr : Nat) (mdealer : Int32) (mnumber : Int32) (mwhose : Int32) (msize : Int32) (misParted : Int32) (fnrc : Nat → Int32) : Prop := MV l G yX12_began cX12_began 2 1 0 0 [.ref h0, .int bo] [(h0, oX12 nw nk mhasKept nt mtaped nr mrowMany mroundOf mroundFrom mouts nm mfromHour mtoHour ns mfrom mto msort misFault mdeep mcoded mlines nl nc nF np ntr nb mbestCost nso nsi nit nsh nsf nss nrc (nI jr) mdealer mnumber mwhose msize misParted), (nrc, iA G 30 fnrc)] (fun u : Nat × (Nat → Int32) => u.1 ≤ 30) (fun u : Nat × (Nat → Int32) => [(h0, oX12 nw nk mhasKept nt mtaped nr mrowMany mroundOf mroundFrom mouts nm mfromHour mtoHour ns mfrom mto msort misFault mdeep mcoded mlines nl nc nF np ntr nb mbestCost nso nsi nit nsh nsf nss nrc (nI u.1) mdealer mnumber mwhose msize misParted), (nrc, iA G 30 u.2)])
set_option maxHeartbeats 4000000 in
set_option maxRecDepth 100000 in
theorem m_began (l : Launch) (G : GG) (h0 : Nat) (bo : Int32) (nw : Nat) (nk : Nat) (mhasKept : Int32) (nt : Nat) (mtaped : Int32) (nr : Nat) (mrowMany : Int32) (mroundOf : Int32) (mroundFrom : Int32) (mouts : Int32) (nm : Nat) (mfromHour : Int32) (mtoHour : Int32) (ns : Nat) (mfrom : Int32) (mto : Int32) (msort : Int32) (misFault : Int32) (mdeep : Int32) (mcoded : Int32) (mlines : Int32) (nl : Nat) (nc : Nat) (nF : Nat) (np : Nat) (ntr : Nat) (nb : Nat) (mbestCost : Int32) (nso : Nat) (nsi : Nat) (nit : Nat) (nsh : Nat) (nsf : Nat) (nss : Nat) (nrc : Nat) (jr : Nat) (mdealer : Int32) (mnumber : Int32) (mwhose : Int32) (msize : Int32) (misParted : Int32) (fnrc : Nat → Int32) (hjr : jr ≤ 30) : K_m_began l G h0 bo nw nk mhasKept nt mtaped nr mrowMany mroundOf mroundFrom mouts nm mfromHour mtoHour ns mfrom mto msort misFault mdeep mcoded mlines nl nc nF np ntr nb mbestCost nso nsi nit nsh nsf nss nrc jr mdealer mnumber mwhose msize misParted fnrc := by
  refine MV.start (by decide +kernel) (Nat.le_of_ble_eq_true rfl) ?_
  intro p e s m below meth c A ls hC hK hP hD hS hA hl
  refine absQ (fun Q0 hQ0 => ?_)
  have hl : lv_has ls 2 [(0, .ref h0), (1, .int bo)] := hl
  refine Kan8 hC (fun hx hb hr hml hB hown hlocks hnm => ?_)
  refine lv_aload_n hx hb gX12_began_0.1 rfl (lv_at0 hl) ?_
  refine gf_X12_351 hC rfl hK hP 0 rfl rfl gX12_began_0.2.1 ?_
  refine lv_bipush (v := 30) hx hb gX12_began_0.2.2.1 (by decide) ?_
  refine lv_icmp_ge (tgt := 29) hx hb gX12_began_0.2.2.2.1 (by decide) (fun c_6_6033 => ?_) (fun c_6_6033 => ?_)
  · refine toQ hQ0 ?_
    exact RV hC hP hD hS [0, 1] (jr, fnrc) rfl rfl (by decide) (by omega) gX12_began_1.2.2.2.2.2.2
  · have hjr9 := nge_nat (R := 30) (k := jr) (by decide) (by omega) c_6_6033
    refine lv_aload_n hx hb gX12_began_0.2.2.2.2.1 rfl (lv_at0 hl) ?_
    refine gf_X12_81 hC rfl hK hP 0 rfl rfl gX12_began_0.2.2.2.2.2.1 ?_
    refine lv_aload_n hx hb gX12_began_0.2.2.2.2.2.2.1 rfl (lv_at0 hl) ?_
    refine gf_X12_351 hC rfl hK hP 0 rfl rfl gX12_began_0.2.2.2.2.2.2.2.1 ?_
    refine lv_iload_n hx hb gX12_began_0.2.2.2.2.2.2.2.2.1 rfl (lv_at1 hl) ?_
    refine astN hC hK hP hD hS 1 (ws' := [(h0, oX12 nw nk mhasKept nt mtaped nr mrowMany mroundOf mroundFrom mouts nm mfromHour mtoHour ns mfrom mto msort misFault mdeep mcoded mlines nl nc nF np ntr nb mbestCost nso nsi nit nsh nsf nss nrc (nI jr) mdealer mnumber mwhose msize misParted), (nrc, iA G 30 (upd fnrc jr bo))]) rfl (k := jr) (by omega) (Nat.le_of_ble_eq_true rfl) (rfl) gX12_began_0.2.2.2.2.2.2.2.2.2 (fun H locs hP hD hS => ?_)
    refine lv_aload_n hx hb gX12_began_1.1 rfl (lv_at0 hl) ?_
    refine lv_dup hx hb gX12_began_1.2.1 rfl ?_
    refine gf_X12_351 hC rfl hK hP 0 rfl rfl gX12_began_1.2.2.1 ?_
    refine lv_iconst (v := 1) hx hb gX12_began_1.2.2.2.1 (by decide) ?_
    refine lv_iadd hx hb gX12_began_1.2.2.2.2.1 ?_
    refine eqi (x1 := nI (jr + 1)) (nI_add jr 1) ?_
    refine pf_X12_351 hC rfl hK hP hD hS 0 (ws' := [(h0, oX12 nw nk mhasKept nt mtaped nr mrowMany mroundOf mroundFrom mouts nm mfromHour mtoHour ns mfrom mto msort misFault mdeep mcoded mlines nl nc nF np ntr nb mbestCost nso nsi nit nsh nsf nss nrc (nI (jr + 1)) mdealer mnumber mwhose msize misParted), (nrc, iA G 30 (upd fnrc jr bo))]) rfl (Nat.le_of_ble_eq_true rfl) rfl rfl rfl gX12_began_1.2.2.2.2.2.1 (fun H locs hP hD hS => ?_)
    refine toQ hQ0 ?_
    exact RV hC hP hD hS [0, 1] ((jr + 1), upd fnrc jr bo) rfl rfl (by decide) (by omega) gX12_began_1.2.2.2.2.2.2
def K_m_body00 (l : Launch) (G : GG) (h0 : Nat) (xx : Int32) (nw : Nat) (nk : Nat) (mhasKept : Int32) (nt : Nat) (mtaped : Int32) (nr : Nat) (mrowMany : Int32) (mroundOf : Int32) (mroundFrom : Int32) (mouts : Int32) (nm : Nat) (mfromHour : Int32) (mtoHour : Int32) (ns : Nat) (mfrom : Int32) (mto : Int32) (msort : Int32) (misFault : Int32) (mdeep : Int32) (mcoded : Int32) (mlines : Int32) (nl : Nat) (nc : Nat) (nF : Nat) (np : Nat) (ntr : Nat) (nb : Nat) (mbestCost : Int32) (nso : Nat) (nsi : Nat) (nit : Nat) (nsh : Nat) (nsf : Nat) (nss : Nat) (nrc : Nat) (jr : Nat) (jd : Nat) (mnumber : Int32) (mwhose : Int32) (msize : Int32) (misParted : Int32) (fnrc : Nat → Int32) : Prop := MI l G yX12_body cX12_body 6 (some .int) 3 0 0 [.ref h0, .int 0, .int 0, .int xx] [(h0, oX12 nw nk mhasKept nt mtaped nr mrowMany mroundOf mroundFrom mouts nm mfromHour mtoHour ns mfrom mto msort misFault mdeep mcoded mlines nl nc nF np ntr nb mbestCost nso nsi nit nsh nsf nss nrc (nI jr) (nI jd) mnumber mwhose msize misParted), (nrc, iA G 30 fnrc)] (fun (r : Int32) (u : Nat × Int32 × (Nat → Int32)) => (True) ∧ (u.1 ≤ 30)) (fun u : Nat × Int32 × (Nat → Int32) => [(h0, oX12 nw nk mhasKept nt mtaped nr mrowMany mroundOf mroundFrom mouts nm mfromHour mtoHour ns mfrom mto msort misFault mdeep mcoded mlines nl nc nF np ntr nb mbestCost nso nsi nit nsh nsf nss nrc (nI u.1) (nI jd) mnumber mwhose msize u.2.1), (nrc, iA G 30 u.2.2)])
set_option maxHeartbeats 4000000 in
set_option maxRecDepth 100000 in
theorem m_body00 (l : Launch) (G : GG) (h0 : Nat) (xx : Int32) (nw : Nat) (nk : Nat) (mhasKept : Int32) (nt : Nat) (mtaped : Int32) (nr : Nat) (mrowMany : Int32) (mroundOf : Int32) (mroundFrom : Int32) (mouts : Int32) (nm : Nat) (mfromHour : Int32) (mtoHour : Int32) (ns : Nat) (mfrom : Int32) (mto : Int32) (msort : Int32) (misFault : Int32) (mdeep : Int32) (mcoded : Int32) (mlines : Int32) (nl : Nat) (nc : Nat) (nF : Nat) (np : Nat) (ntr : Nat) (nb : Nat) (mbestCost : Int32) (nso : Nat) (nsi : Nat) (nit : Nat) (nsh : Nat) (nsf : Nat) (nss : Nat) (nrc : Nat) (jr : Nat) (jd : Nat) (mnumber : Int32) (mwhose : Int32) (msize : Int32) (misParted : Int32) (fnrc : Nat → Int32) (hjr : jr ≤ 30) (hjd : jd < 7) : K_m_body00 l G h0 xx nw nk mhasKept nt mtaped nr mrowMany mroundOf mroundFrom mouts nm mfromHour mtoHour ns mfrom mto msort misFault mdeep mcoded mlines nl nc nF np ntr nb mbestCost nso nsi nit nsh nsf nss nrc jr jd mnumber mwhose msize misParted fnrc := by
  refine MI.start (by decide +kernel) (Nat.le_of_ble_eq_true rfl) ?_
  intro p e s m below meth c A ls hC hK hP hD hS hA hl
  refine absQ (fun Q0 hQ0 => ?_)
  have hl : lv_has ls 6 [(0, .ref h0), (1, .int 0), (2, .int 0), (3, .int xx)] := hl
  refine Kan8 hC (fun hx hb hr hml hB hown hlocks hnm => ?_)
  refine lv_iconst (v := 4) hx hb gX12_body_0.1 (by decide) ?_
  refine lv_iload_n hx hb gX12_body_0.2.1 rfl (lv_at1 hl) ?_
  refine lv_imul hx hb gX12_body_0.2.2.1 ?_
  refine eqi (x1 := 0) (by decide) ?_
  refine lv_iload_n hx hb gX12_body_0.2.2.2.1 rfl (lv_at2 hl) ?_
  refine lv_iadd hx hb gX12_body_0.2.2.2.2.1 ?_
  refine eqi (x1 := 0) (by decide) ?_
  refine lv_tableIn (tgt := 112) hx hb gX12_body_0.2.2.2.2.2.1 (by decide) (by decide) rfl (by decide) ?_
  refine lv_aload_n hx hb gX12_body_0.2.2.2.2.2.2.1 rfl (lv_at0 hl) ?_
  refine lv_bipush (v := 10) hx hb gX12_body_0.2.2.2.2.2.2.2.1 (by decide) ?_
  refine vV (wr := []) hC hK hl hP hD hS hA (m_began l G h0 10 nw nk mhasKept nt mtaped nr mrowMany mroundOf mroundFrom mouts nm mfromHour mtoHour ns mfrom mto msort misFault mdeep mcoded mlines nl nc nF np ntr nb mbestCost nso nsi nit nsh nsf nss nrc jr (nI jd) mnumber mwhose msize misParted fnrc (hjr)) si_X12_366 [0, 1] [] sm_0_1 fm_0_1 nd_0_1 rfl rfl (by decide) rfl rfl rfl rfl rfl (Nat.le_of_ble_eq_true rfl) rm_3_1_2 ⟨Nat.le_of_ble_eq_true rfl, Nat.le_of_ble_eq_true rfl⟩ gX12_body_0.2.2.2.2.2.2.2.2.1 (Ktu2 fun jr16036 gtrc6037 => ?_)
  intro H locs hr6034 hP hD hS
  try dsimp only at hr6034
  refine Kpdr (ws := [(h0, oX12 nw nk mhasKept nt mtaped nr mrowMany mroundOf mroundFrom mouts nm mfromHour mtoHour ns mfrom mto msort misFault mdeep mcoded mlines nl nc nF np ntr nb mbestCost nso nsi nit nsh nsf nss nrc (nI jr16036) (nI jd) mnumber mwhose msize misParted), (nrc, iA G 30 gtrc6037)]) hP hD (fun hP hD => ?_)
  have w6038 := hr6034
  refine lv_iload_n hx hb gX12_body_0.2.2.2.2.2.2.2.2.2 rfl (lv_at3 hl) ?_
  refine lv_aload_n hx hb gX12_body_1.1 rfl (lv_at0 hl) ?_
  refine gf_X12_369 hC rfl hK hP 0 rfl rfl gX12_body_1.2.1 ?_
  refine lv_iadd hx hb gX12_body_1.2.2.1 ?_
  refine toQ hQ0 ?_
  exact RI (v := xx + msize) hC hP hD hS [0, 1] (jr16036, misParted, gtrc6037) rfl rfl (by decide) (⟨trivial, by omega⟩) rfl gX12_body_1.2.2.2.1
def K_m_from00 (l : Launch) (G : GG) (h0 : Nat) (xx : Int32) (nw : Nat) (nk : Nat) (mhasKept : Int32) (nt : Nat) (mtaped : Int32) (nr : Nat) (mrowMany : Int32) (mroundOf : Int32) (mroundFrom : Int32) (mouts : Int32) (nm : Nat) (mfromHour : Int32) (mtoHour : Int32) (ns : Nat) (mfrom : Int32) (mto : Int32) (msort : Int32) (misFault : Int32) (mdeep : Int32) (mcoded : Int32) (mlines : Int32) (nl : Nat) (nc : Nat) (nF : Nat) (np : Nat) (ntr : Nat) (nb : Nat) (mbestCost : Int32) (nso : Nat) (nsi : Nat) (nit : Nat) (nsh : Nat) (nsf : Nat) (nss : Nat) (nrc : Nat) (jr : Nat) (jd : Nat) (mnumber : Int32) (mwhose : Int32) (msize : Int32) (misParted : Int32) (fnrc : Nat → Int32) : Prop := MI l G yX12_bodyFrom cX12_bodyFrom 5 (some .int) 4 0 0 [.ref h0, .int 0, .int 0, .int xx] [(h0, oX12 nw nk mhasKept nt mtaped nr mrowMany mroundOf mroundFrom mouts nm mfromHour mtoHour ns mfrom mto msort misFault mdeep mcoded mlines nl nc nF np ntr nb mbestCost nso nsi nit nsh nsf nss nrc (nI jr) (nI jd) mnumber mwhose msize misParted), (nrc, iA G 30 fnrc)] (fun (r : Int32) (u : Nat × Int32 × (Nat → Int32)) => (True) ∧ (u.1 ≤ 30)) (fun u : Nat × Int32 × (Nat → Int32) => [(h0, oX12 nw nk mhasKept nt mtaped nr mrowMany mroundOf mroundFrom mouts nm mfromHour mtoHour ns mfrom mto msort misFault mdeep mcoded mlines nl nc nF np ntr nb mbestCost nso nsi nit nsh nsf nss nrc (nI u.1) (nI jd) mnumber mwhose msize u.2.1), (nrc, iA G 30 u.2.2)])
set_option maxHeartbeats 4000000 in
set_option maxRecDepth 100000 in
theorem m_from00 (l : Launch) (G : GG) (h0 : Nat) (xx : Int32) (nw : Nat) (nk : Nat) (mhasKept : Int32) (nt : Nat) (mtaped : Int32) (nr : Nat) (mrowMany : Int32) (mroundOf : Int32) (mroundFrom : Int32) (mouts : Int32) (nm : Nat) (mfromHour : Int32) (mtoHour : Int32) (ns : Nat) (mfrom : Int32) (mto : Int32) (msort : Int32) (misFault : Int32) (mdeep : Int32) (mcoded : Int32) (mlines : Int32) (nl : Nat) (nc : Nat) (nF : Nat) (np : Nat) (ntr : Nat) (nb : Nat) (mbestCost : Int32) (nso : Nat) (nsi : Nat) (nit : Nat) (nsh : Nat) (nsf : Nat) (nss : Nat) (nrc : Nat) (jr : Nat) (jd : Nat) (mnumber : Int32) (mwhose : Int32) (msize : Int32) (misParted : Int32) (fnrc : Nat → Int32) (hjr : jr ≤ 30) (hjd : jd < 7) : K_m_from00 l G h0 xx nw nk mhasKept nt mtaped nr mrowMany mroundOf mroundFrom mouts nm mfromHour mtoHour ns mfrom mto msort misFault mdeep mcoded mlines nl nc nF np ntr nb mbestCost nso nsi nit nsh nsf nss nrc jr jd mnumber mwhose msize misParted fnrc := by
  refine MI.start (by decide +kernel) (Nat.le_of_ble_eq_true rfl) ?_
  intro p e s m below meth c A ls hC hK hP hD hS hA hl
  refine absQ (fun Q0 hQ0 => ?_)
  have hl : lv_has ls 5 [(0, .ref h0), (1, .int 0), (2, .int 0), (3, .int xx)] := hl
  refine Kan8 hC (fun hx hb hr hml hB hown hlocks hnm => ?_)
  refine lv_iload_n hx hb gX12_bodyFrom_0.1 rfl (lv_at1 hl) ?_
  refine lv_istore (lv' := [(4, .int 0), (0, .ref h0), (1, .int 0), (2, .int 0), (3, .int xx)]) hx hb gX12_bodyFrom_0.2.1 hl (by decide) rfl (fun ls hl => ?_)
  refine lv_iload hx hb gX12_bodyFrom_0.2.2.1 (lv_at0 hl) ?_
  refine lv_iload_n hx hb gX12_bodyFrom_0.2.2.2.1 rfl (lv_at3 hl) ?_
  refine pS hC hK hl (m_hasOwn00 l G) si_X12_360 rfl rfl (Nat.le_of_ble_eq_true rfl) rm_4_1_2 ⟨by first | exact Nat.le_of_ble_eq_true rfl | exact Nat.zero_le _, by first | exact Nat.le_of_ble_eq_true rfl | exact Nat.zero_le _⟩ gX12_bodyFrom_0.2.2.2.2.1 (Keqr ?_)
  refine lv_if_ne (tgt := 22) hx hb gX12_bodyFrom_0.2.2.2.2.2.1 (by decide) (fun _ => ?_) (fun c9 => absurd c9 (by decide))
  refine lv_aload_n hx hb gX12_bodyFrom_1.1 rfl (lv_at1 hl) ?_
  refine lv_iload hx hb gX12_bodyFrom_1.2.1 (lv_at0 hl) ?_
  refine lv_iload_n hx hb gX12_bodyFrom_1.2.2.1 rfl (lv_at3 hl) ?_
  refine lv_iload_n hx hb gX12_bodyFrom_1.2.2.2.1 rfl (lv_at4 hl) ?_
  refine iV (wr := []) hC hK hl hP hD hS hA (m_body00 l G h0 xx nw nk mhasKept nt mtaped nr mrowMany mroundOf mroundFrom mouts nm mfromHour mtoHour ns mfrom mto msort misFault mdeep mcoded mlines nl nc nF np ntr nb mbestCost nso nsi nit nsh nsf nss nrc jr jd mnumber mwhose msize misParted fnrc (hjr) (hjd)) si_X12_363 [0, 1] [] sm_0_1 fm_0_1 nd_0_1 rfl rfl (by decide) rfl rfl rfl rfl rfl (Nat.le_of_ble_eq_true rfl) rm_4_3_6 ⟨Nat.le_of_ble_eq_true rfl, Nat.le_of_ble_eq_true rfl⟩ gX12_bodyFrom_1.2.2.2.2.1 (fun r6041 => Ktu3 fun jr16043 ip16044 gtrc6045 => ?_)
  intro H locs hr6041 hP hD hS
  try dsimp only at hr6041
  refine Kpdr (ws := [(h0, oX12 nw nk mhasKept nt mtaped nr mrowMany mroundOf mroundFrom mouts nm mfromHour mtoHour ns mfrom mto msort misFault mdeep mcoded mlines nl nc nF np ntr nb mbestCost nso nsi nit nsh nsf nss nrc (nI jr16043) (nI jd) mnumber mwhose msize ip16044), (nrc, iA G 30 gtrc6045)]) hP hD (fun hP hD => ?_)
  obtain ⟨hr6041, w6046⟩ := hr6041
  refine toQ hQ0 ?_
  exact RI (v := r6041) hC hP hD hS [0, 1] (jr16043, ip16044, gtrc6045) rfl rfl (by decide) (⟨trivial, by omega⟩) rfl gX12_bodyFrom_1.2.2.2.2.2
def K_m_body40 (l : Launch) (G : GG) (h0 : Nat) (xx : Int32) (nw : Nat) (nk : Nat) (mhasKept : Int32) (nt : Nat) (mtaped : Int32) (nr : Nat) (mrowMany : Int32) (mroundOf : Int32) (mroundFrom : Int32) (mouts : Int32) (nm : Nat) (mfromHour : Int32) (mtoHour : Int32) (ns : Nat) (mfrom : Int32) (mto : Int32) (msort : Int32) (misFault : Int32) (mdeep : Int32) (mcoded : Int32) (mlines : Int32) (nl : Nat) (nc : Nat) (nF : Nat) (np : Nat) (ntr : Nat) (nb : Nat) (mbestCost : Int32) (nso : Nat) (nsi : Nat) (nit : Nat) (nsh : Nat) (nsf : Nat) (nss : Nat) (nrc : Nat) (jr : Nat) (jd : Nat) (mnumber : Int32) (mwhose : Int32) (msize : Int32) (misParted : Int32) (fnrc : Nat → Int32) : Prop := MI l G yX12_body cX12_body 6 (some .int) 5 0 0 [.ref h0, .int 4, .int 0, .int xx] [(h0, oX12 nw nk mhasKept nt mtaped nr mrowMany mroundOf mroundFrom mouts nm mfromHour mtoHour ns mfrom mto msort misFault mdeep mcoded mlines nl nc nF np ntr nb mbestCost nso nsi nit nsh nsf nss nrc (nI jr) (nI jd) mnumber mwhose msize misParted), (nrc, iA G 30 fnrc)] (fun (r : Int32) (u : Nat × Int32 × (Nat → Int32)) => (True) ∧ (u.1 ≤ 30)) (fun u : Nat × Int32 × (Nat → Int32) => [(h0, oX12 nw nk mhasKept nt mtaped nr mrowMany mroundOf mroundFrom mouts nm mfromHour mtoHour ns mfrom mto msort misFault mdeep mcoded mlines nl nc nF np ntr nb mbestCost nso nsi nit nsh nsf nss nrc (nI u.1) (nI jd) mnumber mwhose msize u.2.1), (nrc, iA G 30 u.2.2)])
set_option maxHeartbeats 4000000 in
set_option maxRecDepth 100000 in
theorem m_body40 (l : Launch) (G : GG) (h0 : Nat) (xx : Int32) (nw : Nat) (nk : Nat) (mhasKept : Int32) (nt : Nat) (mtaped : Int32) (nr : Nat) (mrowMany : Int32) (mroundOf : Int32) (mroundFrom : Int32) (mouts : Int32) (nm : Nat) (mfromHour : Int32) (mtoHour : Int32) (ns : Nat) (mfrom : Int32) (mto : Int32) (msort : Int32) (misFault : Int32) (mdeep : Int32) (mcoded : Int32) (mlines : Int32) (nl : Nat) (nc : Nat) (nF : Nat) (np : Nat) (ntr : Nat) (nb : Nat) (mbestCost : Int32) (nso : Nat) (nsi : Nat) (nit : Nat) (nsh : Nat) (nsf : Nat) (nss : Nat) (nrc : Nat) (jr : Nat) (jd : Nat) (mnumber : Int32) (mwhose : Int32) (msize : Int32) (misParted : Int32) (fnrc : Nat → Int32) (hjr : jr ≤ 30) (hjd : jd < 7) : K_m_body40 l G h0 xx nw nk mhasKept nt mtaped nr mrowMany mroundOf mroundFrom mouts nm mfromHour mtoHour ns mfrom mto msort misFault mdeep mcoded mlines nl nc nF np ntr nb mbestCost nso nsi nit nsh nsf nss nrc jr jd mnumber mwhose msize misParted fnrc := by
  refine MI.start (by decide +kernel) (Nat.le_of_ble_eq_true rfl) ?_
  intro p e s m below meth c A ls hC hK hP hD hS hA hl
  refine absQ (fun Q0 hQ0 => ?_)
  have hl : lv_has ls 6 [(0, .ref h0), (1, .int 4), (2, .int 0), (3, .int xx)] := hl
  refine Kan8 hC (fun hx hb hr hml hB hown hlocks hnm => ?_)
  refine lv_iconst (v := 4) hx hb gX12_body_0.1 (by decide) ?_
  refine lv_iload_n hx hb gX12_body_0.2.1 rfl (lv_at1 hl) ?_
  refine lv_imul hx hb gX12_body_0.2.2.1 ?_
  refine eqi (x1 := 16) (by decide) ?_
  refine lv_iload_n hx hb gX12_body_0.2.2.2.1 rfl (lv_at2 hl) ?_
  refine lv_iadd hx hb gX12_body_0.2.2.2.2.1 ?_
  refine eqi (x1 := 16) (by decide) ?_
  refine lv_tableIn (tgt := 274) hx hb gX12_body_0.2.2.2.2.2.1 (by decide) (by decide) rfl (by decide) ?_
  refine lv_aload_n hx hb gX12_body_10.2.2.2.2.2.2.1 rfl (lv_at0 hl) ?_
  refine lv_bipush (v := 50) hx hb gX12_body_10.2.2.2.2.2.2.2.1 (by decide) ?_
  refine vV (wr := []) hC hK hl hP hD hS hA (m_began l G h0 50 nw nk mhasKept nt mtaped nr mrowMany mroundOf mroundFrom mouts nm mfromHour mtoHour ns mfrom mto msort misFault mdeep mcoded mlines nl nc nF np ntr nb mbestCost nso nsi nit nsh nsf nss nrc jr (nI jd) mnumber mwhose msize misParted fnrc (hjr)) si_X12_366 [0, 1] [] sm_0_1 fm_0_1 nd_0_1 rfl rfl (by decide) rfl rfl rfl rfl rfl (Nat.le_of_ble_eq_true rfl) rm_5_1_2 ⟨Nat.le_of_ble_eq_true rfl, Nat.le_of_ble_eq_true rfl⟩ gX12_body_10.2.2.2.2.2.2.2.2.1 (Ktu2 fun jr16049 gtrc6050 => ?_)
  intro H locs hr6047 hP hD hS
  try dsimp only at hr6047
  refine Kpdr (ws := [(h0, oX12 nw nk mhasKept nt mtaped nr mrowMany mroundOf mroundFrom mouts nm mfromHour mtoHour ns mfrom mto msort misFault mdeep mcoded mlines nl nc nF np ntr nb mbestCost nso nsi nit nsh nsf nss nrc (nI jr16049) (nI jd) mnumber mwhose msize misParted), (nrc, iA G 30 gtrc6050)]) hP hD (fun hP hD => ?_)
  have w6051 := hr6047
  refine lv_aload_n hx hb gX12_body_10.2.2.2.2.2.2.2.2.2 rfl (lv_at0 hl) ?_
  refine lv_iconst (v := 0) hx hb gX12_body_11.1 (by decide) ?_
  refine lv_iconst (v := 0) hx hb gX12_body_11.2.1 (by decide) ?_
  refine lv_iload_n hx hb gX12_body_11.2.2.1 rfl (lv_at3 hl) ?_
  refine iV (wr := []) hC hK hl hP hD hS hA (m_from00 l G h0 xx nw nk mhasKept nt mtaped nr mrowMany mroundOf mroundFrom mouts nm mfromHour mtoHour ns mfrom mto msort misFault mdeep mcoded mlines nl nc nF np ntr nb mbestCost nso nsi nit nsh nsf nss nrc jr16049 jd mnumber mwhose msize misParted gtrc6050 (w6051) (hjd)) si_X12_357 [0, 1] [] sm_0_1 fm_0_1 nd_0_1 rfl rfl (by decide) rfl rfl rfl rfl rfl (Nat.le_of_ble_eq_true rfl) rm_5_4_5 ⟨Nat.le_of_ble_eq_true rfl, Nat.le_of_ble_eq_true rfl⟩ gX12_body_11.2.2.2.1 (fun r6052 => Ktu3 fun jr16054 ip16055 gtrc6056 => ?_)
  intro H locs hr6052 hP hD hS
  try dsimp only at hr6052
  refine Kpdr (ws := [(h0, oX12 nw nk mhasKept nt mtaped nr mrowMany mroundOf mroundFrom mouts nm mfromHour mtoHour ns mfrom mto msort misFault mdeep mcoded mlines nl nc nF np ntr nb mbestCost nso nsi nit nsh nsf nss nrc (nI jr16054) (nI jd) mnumber mwhose msize ip16055), (nrc, iA G 30 gtrc6056)]) hP hD (fun hP hD => ?_)
  obtain ⟨hr6052, w6057⟩ := hr6052
  refine lv_aload_n hx hb gX12_body_11.2.2.2.2.1 rfl (lv_at0 hl) ?_
  refine gf_X12_378 hC rfl hK hP 0 rfl rfl gX12_body_11.2.2.2.2.2.1 ?_
  refine lv_isub hx hb gX12_body_11.2.2.2.2.2.2.1 ?_
  refine toQ hQ0 ?_
  exact RI (v := r6052 - mnumber) hC hP hD hS [0, 1] (jr16054, ip16055, gtrc6056) rfl rfl (by decide) (⟨trivial, by omega⟩) rfl gX12_body_11.2.2.2.2.2.2.2.1
def K_m_from40 (l : Launch) (G : GG) (h0 : Nat) (xx : Int32) (nw : Nat) (nk : Nat) (mhasKept : Int32) (nt : Nat) (mtaped : Int32) (nr : Nat) (mrowMany : Int32) (mroundOf : Int32) (mroundFrom : Int32) (mouts : Int32) (nm : Nat) (mfromHour : Int32) (mtoHour : Int32) (ns : Nat) (mfrom : Int32) (mto : Int32) (msort : Int32) (misFault : Int32) (mdeep : Int32) (mcoded : Int32) (mlines : Int32) (nl : Nat) (nc : Nat) (nF : Nat) (np : Nat) (ntr : Nat) (nb : Nat) (mbestCost : Int32) (nso : Nat) (nsi : Nat) (nit : Nat) (nsh : Nat) (nsf : Nat) (nss : Nat) (nrc : Nat) (jr : Nat) (jd : Nat) (mnumber : Int32) (mwhose : Int32) (msize : Int32) (misParted : Int32) (fnrc : Nat → Int32) : Prop := MI l G yX12_bodyFrom cX12_bodyFrom 5 (some .int) 6 0 0 [.ref h0, .int 4, .int 0, .int xx] [(h0, oX12 nw nk mhasKept nt mtaped nr mrowMany mroundOf mroundFrom mouts nm mfromHour mtoHour ns mfrom mto msort misFault mdeep mcoded mlines nl nc nF np ntr nb mbestCost nso nsi nit nsh nsf nss nrc (nI jr) (nI jd) mnumber mwhose msize misParted), (nrc, iA G 30 fnrc)] (fun (r : Int32) (u : Nat × Int32 × (Nat → Int32)) => (True) ∧ (u.1 ≤ 30)) (fun u : Nat × Int32 × (Nat → Int32) => [(h0, oX12 nw nk mhasKept nt mtaped nr mrowMany mroundOf mroundFrom mouts nm mfromHour mtoHour ns mfrom mto msort misFault mdeep mcoded mlines nl nc nF np ntr nb mbestCost nso nsi nit nsh nsf nss nrc (nI u.1) (nI jd) mnumber mwhose msize u.2.1), (nrc, iA G 30 u.2.2)])
set_option maxHeartbeats 4000000 in
set_option maxRecDepth 100000 in
theorem m_from40 (l : Launch) (G : GG) (h0 : Nat) (xx : Int32) (nw : Nat) (nk : Nat) (mhasKept : Int32) (nt : Nat) (mtaped : Int32) (nr : Nat) (mrowMany : Int32) (mroundOf : Int32) (mroundFrom : Int32) (mouts : Int32) (nm : Nat) (mfromHour : Int32) (mtoHour : Int32) (ns : Nat) (mfrom : Int32) (mto : Int32) (msort : Int32) (misFault : Int32) (mdeep : Int32) (mcoded : Int32) (mlines : Int32) (nl : Nat) (nc : Nat) (nF : Nat) (np : Nat) (ntr : Nat) (nb : Nat) (mbestCost : Int32) (nso : Nat) (nsi : Nat) (nit : Nat) (nsh : Nat) (nsf : Nat) (nss : Nat) (nrc : Nat) (jr : Nat) (jd : Nat) (mnumber : Int32) (mwhose : Int32) (msize : Int32) (misParted : Int32) (fnrc : Nat → Int32) (hjr : jr ≤ 30) (hjd : jd < 7) : K_m_from40 l G h0 xx nw nk mhasKept nt mtaped nr mrowMany mroundOf mroundFrom mouts nm mfromHour mtoHour ns mfrom mto msort misFault mdeep mcoded mlines nl nc nF np ntr nb mbestCost nso nsi nit nsh nsf nss nrc jr jd mnumber mwhose msize misParted fnrc := by
  refine MI.start (by decide +kernel) (Nat.le_of_ble_eq_true rfl) ?_
  intro p e s m below meth c A ls hC hK hP hD hS hA hl
  refine absQ (fun Q0 hQ0 => ?_)
  have hl : lv_has ls 5 [(0, .ref h0), (1, .int 4), (2, .int 0), (3, .int xx)] := hl
  refine Kan8 hC (fun hx hb hr hml hB hown hlocks hnm => ?_)
  refine lv_iload_n hx hb gX12_bodyFrom_0.1 rfl (lv_at1 hl) ?_
  refine lv_istore (lv' := [(4, .int 4), (0, .ref h0), (1, .int 4), (2, .int 0), (3, .int xx)]) hx hb gX12_bodyFrom_0.2.1 hl (by decide) rfl (fun ls hl => ?_)
  refine lv_iload hx hb gX12_bodyFrom_0.2.2.1 (lv_at0 hl) ?_
  refine lv_iload_n hx hb gX12_bodyFrom_0.2.2.2.1 rfl (lv_at3 hl) ?_
  refine pS hC hK hl (m_hasOwn40 l G) si_X12_360 rfl rfl (Nat.le_of_ble_eq_true rfl) rm_6_1_2 ⟨by first | exact Nat.le_of_ble_eq_true rfl | exact Nat.zero_le _, by first | exact Nat.le_of_ble_eq_true rfl | exact Nat.zero_le _⟩ gX12_bodyFrom_0.2.2.2.2.1 (Keqr ?_)
  refine lv_if_ne (tgt := 22) hx hb gX12_bodyFrom_0.2.2.2.2.2.1 (by decide) (fun _ => ?_) (fun c9 => absurd c9 (by decide))
  refine lv_aload_n hx hb gX12_bodyFrom_1.1 rfl (lv_at1 hl) ?_
  refine lv_iload hx hb gX12_bodyFrom_1.2.1 (lv_at0 hl) ?_
  refine lv_iload_n hx hb gX12_bodyFrom_1.2.2.1 rfl (lv_at3 hl) ?_
  refine lv_iload_n hx hb gX12_bodyFrom_1.2.2.2.1 rfl (lv_at4 hl) ?_
  refine iV (wr := []) hC hK hl hP hD hS hA (m_body40 l G h0 xx nw nk mhasKept nt mtaped nr mrowMany mroundOf mroundFrom mouts nm mfromHour mtoHour ns mfrom mto msort misFault mdeep mcoded mlines nl nc nF np ntr nb mbestCost nso nsi nit nsh nsf nss nrc jr jd mnumber mwhose msize misParted fnrc (hjr) (hjd)) si_X12_363 [0, 1] [] sm_0_1 fm_0_1 nd_0_1 rfl rfl (by decide) rfl rfl rfl rfl rfl (Nat.le_of_ble_eq_true rfl) rm_6_5_6 ⟨Nat.le_of_ble_eq_true rfl, Nat.le_of_ble_eq_true rfl⟩ gX12_bodyFrom_1.2.2.2.2.1 (fun r6060 => Ktu3 fun jr16062 ip16063 gtrc6064 => ?_)
  intro H locs hr6060 hP hD hS
  try dsimp only at hr6060
  refine Kpdr (ws := [(h0, oX12 nw nk mhasKept nt mtaped nr mrowMany mroundOf mroundFrom mouts nm mfromHour mtoHour ns mfrom mto msort misFault mdeep mcoded mlines nl nc nF np ntr nb mbestCost nso nsi nit nsh nsf nss nrc (nI jr16062) (nI jd) mnumber mwhose msize ip16063), (nrc, iA G 30 gtrc6064)]) hP hD (fun hP hD => ?_)
  obtain ⟨hr6060, w6065⟩ := hr6060
  refine toQ hQ0 ?_
  exact RI (v := r6060) hC hP hD hS [0, 1] (jr16062, ip16063, gtrc6064) rfl rfl (by decide) (⟨trivial, by omega⟩) rfl gX12_bodyFrom_1.2.2.2.2.2
def K_m_body50 (l : Launch) (G : GG) (h0 : Nat) (xx : Int32) (nw : Nat) (nk : Nat) (mhasKept : Int32) (nt : Nat) (mtaped : Int32) (nr : Nat) (mrowMany : Int32) (mroundOf : Int32) (mroundFrom : Int32) (mouts : Int32) (nm : Nat) (mfromHour : Int32) (mtoHour : Int32) (ns : Nat) (mfrom : Int32) (mto : Int32) (msort : Int32) (misFault : Int32) (mdeep : Int32) (mcoded : Int32) (mlines : Int32) (nl : Nat) (nc : Nat) (nF : Nat) (np : Nat) (ntr : Nat) (nb : Nat) (mbestCost : Int32) (nso : Nat) (nsi : Nat) (nit : Nat) (nsh : Nat) (nsf : Nat) (nss : Nat) (nrc : Nat) (jr : Nat) (jd : Nat) (mnumber : Int32) (mwhose : Int32) (msize : Int32) (misParted : Int32) (fnrc : Nat → Int32) : Prop := MI l G yX12_body cX12_body 6 (some .int) 7 0 0 [.ref h0, .int 5, .int 0, .int xx] [(h0, oX12 nw nk mhasKept nt mtaped nr mrowMany mroundOf mroundFrom mouts nm mfromHour mtoHour ns mfrom mto msort misFault mdeep mcoded mlines nl nc nF np ntr nb mbestCost nso nsi nit nsh nsf nss nrc (nI jr) (nI jd) mnumber mwhose msize misParted), (nrc, iA G 30 fnrc)] (fun (r : Int32) (u : Nat × Int32 × (Nat → Int32)) => (True) ∧ (u.1 ≤ 30)) (fun u : Nat × Int32 × (Nat → Int32) => [(h0, oX12 nw nk mhasKept nt mtaped nr mrowMany mroundOf mroundFrom mouts nm mfromHour mtoHour ns mfrom mto msort misFault mdeep mcoded mlines nl nc nF np ntr nb mbestCost nso nsi nit nsh nsf nss nrc (nI u.1) (nI jd) mnumber mwhose msize u.2.1), (nrc, iA G 30 u.2.2)])
set_option maxHeartbeats 4000000 in
set_option maxRecDepth 100000 in
theorem m_body50 (l : Launch) (G : GG) (h0 : Nat) (xx : Int32) (nw : Nat) (nk : Nat) (mhasKept : Int32) (nt : Nat) (mtaped : Int32) (nr : Nat) (mrowMany : Int32) (mroundOf : Int32) (mroundFrom : Int32) (mouts : Int32) (nm : Nat) (mfromHour : Int32) (mtoHour : Int32) (ns : Nat) (mfrom : Int32) (mto : Int32) (msort : Int32) (misFault : Int32) (mdeep : Int32) (mcoded : Int32) (mlines : Int32) (nl : Nat) (nc : Nat) (nF : Nat) (np : Nat) (ntr : Nat) (nb : Nat) (mbestCost : Int32) (nso : Nat) (nsi : Nat) (nit : Nat) (nsh : Nat) (nsf : Nat) (nss : Nat) (nrc : Nat) (jr : Nat) (jd : Nat) (mnumber : Int32) (mwhose : Int32) (msize : Int32) (misParted : Int32) (fnrc : Nat → Int32) (hjr : jr ≤ 30) (hjd : jd < 7) : K_m_body50 l G h0 xx nw nk mhasKept nt mtaped nr mrowMany mroundOf mroundFrom mouts nm mfromHour mtoHour ns mfrom mto msort misFault mdeep mcoded mlines nl nc nF np ntr nb mbestCost nso nsi nit nsh nsf nss nrc jr jd mnumber mwhose msize misParted fnrc := by
  refine MI.start (by decide +kernel) (Nat.le_of_ble_eq_true rfl) ?_
  intro p e s m below meth c A ls hC hK hP hD hS hA hl
  refine absQ (fun Q0 hQ0 => ?_)
  have hl : lv_has ls 6 [(0, .ref h0), (1, .int 5), (2, .int 0), (3, .int xx)] := hl
  refine Kan8 hC (fun hx hb hr hml hB hown hlocks hnm => ?_)
  refine lv_iconst (v := 4) hx hb gX12_body_0.1 (by decide) ?_
  refine lv_iload_n hx hb gX12_body_0.2.1 rfl (lv_at1 hl) ?_
  refine lv_imul hx hb gX12_body_0.2.2.1 ?_
  refine eqi (x1 := 20) (by decide) ?_
  refine lv_iload_n hx hb gX12_body_0.2.2.2.1 rfl (lv_at2 hl) ?_
  refine lv_iadd hx hb gX12_body_0.2.2.2.2.1 ?_
  refine eqi (x1 := 20) (by decide) ?_
  refine lv_tableIn (tgt := 334) hx hb gX12_body_0.2.2.2.2.2.1 (by decide) (by decide) rfl (by decide) ?_
  refine lv_aload_n hx hb gX12_body_14.2.2.2.2.2.1 rfl (lv_at0 hl) ?_
  refine lv_bipush (v := 61) hx hb gX12_body_14.2.2.2.2.2.2.1 (by decide) ?_
  refine vV (wr := []) hC hK hl hP hD hS hA (m_began l G h0 61 nw nk mhasKept nt mtaped nr mrowMany mroundOf mroundFrom mouts nm mfromHour mtoHour ns mfrom mto msort misFault mdeep mcoded mlines nl nc nF np ntr nb mbestCost nso nsi nit nsh nsf nss nrc jr (nI jd) mnumber mwhose msize misParted fnrc (hjr)) si_X12_366 [0, 1] [] sm_0_1 fm_0_1 nd_0_1 rfl rfl (by decide) rfl rfl rfl rfl rfl (Nat.le_of_ble_eq_true rfl) rm_7_1_2 ⟨Nat.le_of_ble_eq_true rfl, Nat.le_of_ble_eq_true rfl⟩ gX12_body_14.2.2.2.2.2.2.2.1 (Ktu2 fun jr16068 gtrc6069 => ?_)
  intro H locs hr6066 hP hD hS
  try dsimp only at hr6066
  refine Kpdr (ws := [(h0, oX12 nw nk mhasKept nt mtaped nr mrowMany mroundOf mroundFrom mouts nm mfromHour mtoHour ns mfrom mto msort misFault mdeep mcoded mlines nl nc nF np ntr nb mbestCost nso nsi nit nsh nsf nss nrc (nI jr16068) (nI jd) mnumber mwhose msize misParted), (nrc, iA G 30 gtrc6069)]) hP hD (fun hP hD => ?_)
  have w6070 := hr6066
  refine lv_aload_n hx hb gX12_body_14.2.2.2.2.2.2.2.2.1 rfl (lv_at0 hl) ?_
  refine lv_iconst (v := 4) hx hb gX12_body_14.2.2.2.2.2.2.2.2.2 (by decide) ?_
  refine lv_iconst (v := 0) hx hb gX12_body_15.1 (by decide) ?_
  refine lv_iload_n hx hb gX12_body_15.2.1 rfl (lv_at3 hl) ?_
  refine lv_aload_n hx hb gX12_body_15.2.2.1 rfl (lv_at0 hl) ?_
  refine gf_X12_375 hC rfl hK hP 0 rfl rfl gX12_body_15.2.2.2.1 ?_
  refine lv_iadd hx hb gX12_body_15.2.2.2.2.1 ?_
  refine iV (wr := []) hC hK hl hP hD hS hA (m_from40 l G h0 (xx + mwhose) nw nk mhasKept nt mtaped nr mrowMany mroundOf mroundFrom mouts nm mfromHour mtoHour ns mfrom mto msort misFault mdeep mcoded mlines nl nc nF np ntr nb mbestCost nso nsi nit nsh nsf nss nrc jr16068 jd mnumber mwhose msize misParted gtrc6069 (w6070) (hjd)) si_X12_357 [0, 1] [] sm_0_1 fm_0_1 nd_0_1 rfl rfl (by decide) rfl rfl rfl rfl rfl (Nat.le_of_ble_eq_true rfl) rm_7_6_5 ⟨Nat.le_of_ble_eq_true rfl, Nat.le_of_ble_eq_true rfl⟩ gX12_body_15.2.2.2.2.2.1 (fun r6071 => Ktu3 fun jr16073 ip16074 gtrc6075 => ?_)
  intro H locs hr6071 hP hD hS
  try dsimp only at hr6071
  refine Kpdr (ws := [(h0, oX12 nw nk mhasKept nt mtaped nr mrowMany mroundOf mroundFrom mouts nm mfromHour mtoHour ns mfrom mto msort misFault mdeep mcoded mlines nl nc nF np ntr nb mbestCost nso nsi nit nsh nsf nss nrc (nI jr16073) (nI jd) mnumber mwhose msize ip16074), (nrc, iA G 30 gtrc6075)]) hP hD (fun hP hD => ?_)
  obtain ⟨hr6071, w6076⟩ := hr6071
  refine toQ hQ0 ?_
  exact RI (v := r6071) hC hP hD hS [0, 1] (jr16073, ip16074, gtrc6075) rfl rfl (by decide) (⟨trivial, by omega⟩) rfl gX12_body_15.2.2.2.2.2.2.1
def K_m_from50 (l : Launch) (G : GG) (h0 : Nat) (xx : Int32) (nw : Nat) (nk : Nat) (mhasKept : Int32) (nt : Nat) (mtaped : Int32) (nr : Nat) (mrowMany : Int32) (mroundOf : Int32) (mroundFrom : Int32) (mouts : Int32) (nm : Nat) (mfromHour : Int32) (mtoHour : Int32) (ns : Nat) (mfrom : Int32) (mto : Int32) (msort : Int32) (misFault : Int32) (mdeep : Int32) (mcoded : Int32) (mlines : Int32) (nl : Nat) (nc : Nat) (nF : Nat) (np : Nat) (ntr : Nat) (nb : Nat) (mbestCost : Int32) (nso : Nat) (nsi : Nat) (nit : Nat) (nsh : Nat) (nsf : Nat) (nss : Nat) (nrc : Nat) (jr : Nat) (jd : Nat) (mnumber : Int32) (mwhose : Int32) (msize : Int32) (misParted : Int32) (fnrc : Nat → Int32) : Prop := MI l G yX12_bodyFrom cX12_bodyFrom 5 (some .int) 8 0 0 [.ref h0, .int 5, .int 0, .int xx] [(h0, oX12 nw nk mhasKept nt mtaped nr mrowMany mroundOf mroundFrom mouts nm mfromHour mtoHour ns mfrom mto msort misFault mdeep mcoded mlines nl nc nF np ntr nb mbestCost nso nsi nit nsh nsf nss nrc (nI jr) (nI jd) mnumber mwhose msize misParted), (nrc, iA G 30 fnrc)] (fun (r : Int32) (u : Nat × Int32 × (Nat → Int32)) => (True) ∧ (u.1 ≤ 30)) (fun u : Nat × Int32 × (Nat → Int32) => [(h0, oX12 nw nk mhasKept nt mtaped nr mrowMany mroundOf mroundFrom mouts nm mfromHour mtoHour ns mfrom mto msort misFault mdeep mcoded mlines nl nc nF np ntr nb mbestCost nso nsi nit nsh nsf nss nrc (nI u.1) (nI jd) mnumber mwhose msize u.2.1), (nrc, iA G 30 u.2.2)])
set_option maxHeartbeats 4000000 in
set_option maxRecDepth 100000 in
theorem m_from50 (l : Launch) (G : GG) (h0 : Nat) (xx : Int32) (nw : Nat) (nk : Nat) (mhasKept : Int32) (nt : Nat) (mtaped : Int32) (nr : Nat) (mrowMany : Int32) (mroundOf : Int32) (mroundFrom : Int32) (mouts : Int32) (nm : Nat) (mfromHour : Int32) (mtoHour : Int32) (ns : Nat) (mfrom : Int32) (mto : Int32) (msort : Int32) (misFault : Int32) (mdeep : Int32) (mcoded : Int32) (mlines : Int32) (nl : Nat) (nc : Nat) (nF : Nat) (np : Nat) (ntr : Nat) (nb : Nat) (mbestCost : Int32) (nso : Nat) (nsi : Nat) (nit : Nat) (nsh : Nat) (nsf : Nat) (nss : Nat) (nrc : Nat) (jr : Nat) (jd : Nat) (mnumber : Int32) (mwhose : Int32) (msize : Int32) (misParted : Int32) (fnrc : Nat → Int32) (hjr : jr ≤ 30) (hjd : jd < 7) : K_m_from50 l G h0 xx nw nk mhasKept nt mtaped nr mrowMany mroundOf mroundFrom mouts nm mfromHour mtoHour ns mfrom mto msort misFault mdeep mcoded mlines nl nc nF np ntr nb mbestCost nso nsi nit nsh nsf nss nrc jr jd mnumber mwhose msize misParted fnrc := by
  refine MI.start (by decide +kernel) (Nat.le_of_ble_eq_true rfl) ?_
  intro p e s m below meth c A ls hC hK hP hD hS hA hl
  refine absQ (fun Q0 hQ0 => ?_)
  have hl : lv_has ls 5 [(0, .ref h0), (1, .int 5), (2, .int 0), (3, .int xx)] := hl
  refine Kan8 hC (fun hx hb hr hml hB hown hlocks hnm => ?_)
  refine lv_iload_n hx hb gX12_bodyFrom_0.1 rfl (lv_at1 hl) ?_
  refine lv_istore (lv' := [(4, .int 5), (0, .ref h0), (1, .int 5), (2, .int 0), (3, .int xx)]) hx hb gX12_bodyFrom_0.2.1 hl (by decide) rfl (fun ls hl => ?_)
  refine lv_iload hx hb gX12_bodyFrom_0.2.2.1 (lv_at0 hl) ?_
  refine lv_iload_n hx hb gX12_bodyFrom_0.2.2.2.1 rfl (lv_at3 hl) ?_
  refine pS hC hK hl (m_hasOwn50 l G) si_X12_360 rfl rfl (Nat.le_of_ble_eq_true rfl) rm_8_1_2 ⟨by first | exact Nat.le_of_ble_eq_true rfl | exact Nat.zero_le _, by first | exact Nat.le_of_ble_eq_true rfl | exact Nat.zero_le _⟩ gX12_bodyFrom_0.2.2.2.2.1 (Keqr ?_)
  refine lv_if_ne (tgt := 22) hx hb gX12_bodyFrom_0.2.2.2.2.2.1 (by decide) (fun _ => ?_) (fun c9 => absurd c9 (by decide))
  refine lv_aload_n hx hb gX12_bodyFrom_1.1 rfl (lv_at1 hl) ?_
  refine lv_iload hx hb gX12_bodyFrom_1.2.1 (lv_at0 hl) ?_
  refine lv_iload_n hx hb gX12_bodyFrom_1.2.2.1 rfl (lv_at3 hl) ?_
  refine lv_iload_n hx hb gX12_bodyFrom_1.2.2.2.1 rfl (lv_at4 hl) ?_
  refine iV (wr := []) hC hK hl hP hD hS hA (m_body50 l G h0 xx nw nk mhasKept nt mtaped nr mrowMany mroundOf mroundFrom mouts nm mfromHour mtoHour ns mfrom mto msort misFault mdeep mcoded mlines nl nc nF np ntr nb mbestCost nso nsi nit nsh nsf nss nrc jr jd mnumber mwhose msize misParted fnrc (hjr) (hjd)) si_X12_363 [0, 1] [] sm_0_1 fm_0_1 nd_0_1 rfl rfl (by decide) rfl rfl rfl rfl rfl (Nat.le_of_ble_eq_true rfl) rm_8_7_6 ⟨Nat.le_of_ble_eq_true rfl, Nat.le_of_ble_eq_true rfl⟩ gX12_bodyFrom_1.2.2.2.2.1 (fun r6079 => Ktu3 fun jr16081 ip16082 gtrc6083 => ?_)
  intro H locs hr6079 hP hD hS
  try dsimp only at hr6079
  refine Kpdr (ws := [(h0, oX12 nw nk mhasKept nt mtaped nr mrowMany mroundOf mroundFrom mouts nm mfromHour mtoHour ns mfrom mto msort misFault mdeep mcoded mlines nl nc nF np ntr nb mbestCost nso nsi nit nsh nsf nss nrc (nI jr16081) (nI jd) mnumber mwhose msize ip16082), (nrc, iA G 30 gtrc6083)]) hP hD (fun hP hD => ?_)
  obtain ⟨hr6079, w6084⟩ := hr6079
  refine toQ hQ0 ?_
  exact RI (v := r6079) hC hP hD hS [0, 1] (jr16081, ip16082, gtrc6083) rfl rfl (by decide) (⟨trivial, by omega⟩) rfl gX12_bodyFrom_1.2.2.2.2.2
def K_m_from10 (l : Launch) (G : GG) (h0 : Nat) (xx : Int32) (nw : Nat) (nk : Nat) (mhasKept : Int32) (nt : Nat) (mtaped : Int32) (nr : Nat) (mrowMany : Int32) (mroundOf : Int32) (mroundFrom : Int32) (mouts : Int32) (nm : Nat) (mfromHour : Int32) (mtoHour : Int32) (ns : Nat) (mfrom : Int32) (mto : Int32) (msort : Int32) (misFault : Int32) (mdeep : Int32) (mcoded : Int32) (mlines : Int32) (nl : Nat) (nc : Nat) (nF : Nat) (np : Nat) (ntr : Nat) (nb : Nat) (mbestCost : Int32) (nso : Nat) (nsi : Nat) (nit : Nat) (nsh : Nat) (nsf : Nat) (nss : Nat) (nrc : Nat) (jr : Nat) (jd : Nat) (mnumber : Int32) (mwhose : Int32) (msize : Int32) (misParted : Int32) (fnrc : Nat → Int32) : Prop := MI l G yX12_bodyFrom cX12_bodyFrom 5 (some .int) 12 0 0 [.ref h0, .int 1, .int 0, .int xx] [(h0, oX12 nw nk mhasKept nt mtaped nr mrowMany mroundOf mroundFrom mouts nm mfromHour mtoHour ns mfrom mto msort misFault mdeep mcoded mlines nl nc nF np ntr nb mbestCost nso nsi nit nsh nsf nss nrc (nI jr) (nI jd) mnumber mwhose msize misParted), (nrc, iA G 30 fnrc)] (fun (r : Int32) (u : Nat × Int32 × (Nat → Int32)) => (True) ∧ (u.1 ≤ 30)) (fun u : Nat × Int32 × (Nat → Int32) => [(h0, oX12 nw nk mhasKept nt mtaped nr mrowMany mroundOf mroundFrom mouts nm mfromHour mtoHour ns mfrom mto msort misFault mdeep mcoded mlines nl nc nF np ntr nb mbestCost nso nsi nit nsh nsf nss nrc (nI u.1) (nI jd) mnumber mwhose msize u.2.1), (nrc, iA G 30 u.2.2)])
set_option maxHeartbeats 4000000 in
set_option maxRecDepth 100000 in
theorem m_from10 (l : Launch) (G : GG) (h0 : Nat) (xx : Int32) (nw : Nat) (nk : Nat) (mhasKept : Int32) (nt : Nat) (mtaped : Int32) (nr : Nat) (mrowMany : Int32) (mroundOf : Int32) (mroundFrom : Int32) (mouts : Int32) (nm : Nat) (mfromHour : Int32) (mtoHour : Int32) (ns : Nat) (mfrom : Int32) (mto : Int32) (msort : Int32) (misFault : Int32) (mdeep : Int32) (mcoded : Int32) (mlines : Int32) (nl : Nat) (nc : Nat) (nF : Nat) (np : Nat) (ntr : Nat) (nb : Nat) (mbestCost : Int32) (nso : Nat) (nsi : Nat) (nit : Nat) (nsh : Nat) (nsf : Nat) (nss : Nat) (nrc : Nat) (jr : Nat) (jd : Nat) (mnumber : Int32) (mwhose : Int32) (msize : Int32) (misParted : Int32) (fnrc : Nat → Int32) (hjr : jr ≤ 30) (hjd : jd < 7) : K_m_from10 l G h0 xx nw nk mhasKept nt mtaped nr mrowMany mroundOf mroundFrom mouts nm mfromHour mtoHour ns mfrom mto msort misFault mdeep mcoded mlines nl nc nF np ntr nb mbestCost nso nsi nit nsh nsf nss nrc jr jd mnumber mwhose msize misParted fnrc := by
  refine MI.start (by decide +kernel) (Nat.le_of_ble_eq_true rfl) ?_
  intro p e s m below meth c A ls hC hK hP hD hS hA hl
  refine absQ (fun Q0 hQ0 => ?_)
  have hl : lv_has ls 5 [(0, .ref h0), (1, .int 1), (2, .int 0), (3, .int xx)] := hl
  refine Kan8 hC (fun hx hb hr hml hB hown hlocks hnm => ?_)
  refine lv_iload_n hx hb gX12_bodyFrom_0.1 rfl (lv_at1 hl) ?_
  refine lv_istore (lv' := [(4, .int 1), (0, .ref h0), (1, .int 1), (2, .int 0), (3, .int xx)]) hx hb gX12_bodyFrom_0.2.1 hl (by decide) rfl (fun ls hl => ?_)
  refine lv_iload hx hb gX12_bodyFrom_0.2.2.1 (lv_at0 hl) ?_
  refine lv_iload_n hx hb gX12_bodyFrom_0.2.2.2.1 rfl (lv_at3 hl) ?_
  refine pS hC hK hl (m_hasOwn10 l G) si_X12_360 rfl rfl (Nat.le_of_ble_eq_true rfl) rm_12_1_2 ⟨by first | exact Nat.le_of_ble_eq_true rfl | exact Nat.zero_le _, by first | exact Nat.le_of_ble_eq_true rfl | exact Nat.zero_le _⟩ gX12_bodyFrom_0.2.2.2.2.1 (Keqr ?_)
  refine lv_if_ne (tgt := 22) hx hb gX12_bodyFrom_0.2.2.2.2.2.1 (by decide) (fun c9 => absurd (by decide) c9) (fun _ => ?_)
  refine lv_iload hx hb gX12_bodyFrom_0.2.2.2.2.2.2.1 (lv_at0 hl) ?_
  refine pS hC hK hl (m_above1 l G) si_X12_348 rfl rfl (Nat.le_of_ble_eq_true rfl) rm_12_1_1 ⟨by first | exact Nat.le_of_ble_eq_true rfl | exact Nat.zero_le _, by first | exact Nat.le_of_ble_eq_true rfl | exact Nat.zero_le _⟩ gX12_bodyFrom_0.2.2.2.2.2.2.2.1 (Keqr ?_)
  refine lv_istore (lv' := [(4, .int 0), (0, .ref h0), (1, .int 1), (2, .int 0), (3, .int xx)]) hx hb gX12_bodyFrom_0.2.2.2.2.2.2.2.2.1 hl (by decide) rfl (fun ls hl => ?_)
  refine lv_goto (tgt := 3) hx hb gX12_bodyFrom_0.2.2.2.2.2.2.2.2.2 (by decide) ?_
  refine lv_iload hx hb gX12_bodyFrom_0.2.2.1 (lv_at0 hl) ?_
  refine lv_iload_n hx hb gX12_bodyFrom_0.2.2.2.1 rfl (lv_at3 hl) ?_
  refine pS hC hK hl (m_hasOwn00 l G) si_X12_360 rfl rfl (Nat.le_of_ble_eq_true rfl) rm_12_1_2 ⟨by first | exact Nat.le_of_ble_eq_true rfl | exact Nat.zero_le _, by first | exact Nat.le_of_ble_eq_true rfl | exact Nat.zero_le _⟩ gX12_bodyFrom_0.2.2.2.2.1 (Keqr ?_)
  refine lv_if_ne (tgt := 22) hx hb gX12_bodyFrom_0.2.2.2.2.2.1 (by decide) (fun _ => ?_) (fun c9 => absurd c9 (by decide))
  refine lv_aload_n hx hb gX12_bodyFrom_1.1 rfl (lv_at1 hl) ?_
  refine lv_iload hx hb gX12_bodyFrom_1.2.1 (lv_at0 hl) ?_
  refine lv_iload_n hx hb gX12_bodyFrom_1.2.2.1 rfl (lv_at3 hl) ?_
  refine lv_iload_n hx hb gX12_bodyFrom_1.2.2.2.1 rfl (lv_at4 hl) ?_
  refine iV (wr := []) hC hK hl hP hD hS hA (m_body00 l G h0 xx nw nk mhasKept nt mtaped nr mrowMany mroundOf mroundFrom mouts nm mfromHour mtoHour ns mfrom mto msort misFault mdeep mcoded mlines nl nc nF np ntr nb mbestCost nso nsi nit nsh nsf nss nrc jr jd mnumber mwhose msize misParted fnrc (hjr) (hjd)) si_X12_363 [0, 1] [] sm_0_1 fm_0_1 nd_0_1 rfl rfl (by decide) rfl rfl rfl rfl rfl (Nat.le_of_ble_eq_true rfl) rm_12_3_6 ⟨Nat.le_of_ble_eq_true rfl, Nat.le_of_ble_eq_true rfl⟩ gX12_bodyFrom_1.2.2.2.2.1 (fun r6091 => Ktu3 fun jr16093 ip16094 gtrc6095 => ?_)
  intro H locs hr6091 hP hD hS
  try dsimp only at hr6091
  refine Kpdr (ws := [(h0, oX12 nw nk mhasKept nt mtaped nr mrowMany mroundOf mroundFrom mouts nm mfromHour mtoHour ns mfrom mto msort misFault mdeep mcoded mlines nl nc nF np ntr nb mbestCost nso nsi nit nsh nsf nss nrc (nI jr16093) (nI jd) mnumber mwhose msize ip16094), (nrc, iA G 30 gtrc6095)]) hP hD (fun hP hD => ?_)
  obtain ⟨hr6091, w6096⟩ := hr6091
  refine toQ hQ0 ?_
  exact RI (v := r6091) hC hP hD hS [0, 1] (jr16093, ip16094, gtrc6095) rfl rfl (by decide) (⟨trivial, by omega⟩) rfl gX12_bodyFrom_1.2.2.2.2.2
def K_m_from20 (l : Launch) (G : GG) (h0 : Nat) (xx : Int32) (nw : Nat) (nk : Nat) (mhasKept : Int32) (nt : Nat) (mtaped : Int32) (nr : Nat) (mrowMany : Int32) (mroundOf : Int32) (mroundFrom : Int32) (mouts : Int32) (nm : Nat) (mfromHour : Int32) (mtoHour : Int32) (ns : Nat) (mfrom : Int32) (mto : Int32) (msort : Int32) (misFault : Int32) (mdeep : Int32) (mcoded : Int32) (mlines : Int32) (nl : Nat) (nc : Nat) (nF : Nat) (np : Nat) (ntr : Nat) (nb : Nat) (mbestCost : Int32) (nso : Nat) (nsi : Nat) (nit : Nat) (nsh : Nat) (nsf : Nat) (nss : Nat) (nrc : Nat) (jr : Nat) (jd : Nat) (mnumber : Int32) (mwhose : Int32) (msize : Int32) (misParted : Int32) (fnrc : Nat → Int32) : Prop := MI l G yX12_bodyFrom cX12_bodyFrom 5 (some .int) 12 0 0 [.ref h0, .int 2, .int 0, .int xx] [(h0, oX12 nw nk mhasKept nt mtaped nr mrowMany mroundOf mroundFrom mouts nm mfromHour mtoHour ns mfrom mto msort misFault mdeep mcoded mlines nl nc nF np ntr nb mbestCost nso nsi nit nsh nsf nss nrc (nI jr) (nI jd) mnumber mwhose msize misParted), (nrc, iA G 30 fnrc)] (fun (r : Int32) (u : Nat × Int32 × (Nat → Int32)) => (True) ∧ (u.1 ≤ 30)) (fun u : Nat × Int32 × (Nat → Int32) => [(h0, oX12 nw nk mhasKept nt mtaped nr mrowMany mroundOf mroundFrom mouts nm mfromHour mtoHour ns mfrom mto msort misFault mdeep mcoded mlines nl nc nF np ntr nb mbestCost nso nsi nit nsh nsf nss nrc (nI u.1) (nI jd) mnumber mwhose msize u.2.1), (nrc, iA G 30 u.2.2)])
set_option maxHeartbeats 4000000 in
set_option maxRecDepth 100000 in
theorem m_from20 (l : Launch) (G : GG) (h0 : Nat) (xx : Int32) (nw : Nat) (nk : Nat) (mhasKept : Int32) (nt : Nat) (mtaped : Int32) (nr : Nat) (mrowMany : Int32) (mroundOf : Int32) (mroundFrom : Int32) (mouts : Int32) (nm : Nat) (mfromHour : Int32) (mtoHour : Int32) (ns : Nat) (mfrom : Int32) (mto : Int32) (msort : Int32) (misFault : Int32) (mdeep : Int32) (mcoded : Int32) (mlines : Int32) (nl : Nat) (nc : Nat) (nF : Nat) (np : Nat) (ntr : Nat) (nb : Nat) (mbestCost : Int32) (nso : Nat) (nsi : Nat) (nit : Nat) (nsh : Nat) (nsf : Nat) (nss : Nat) (nrc : Nat) (jr : Nat) (jd : Nat) (mnumber : Int32) (mwhose : Int32) (msize : Int32) (misParted : Int32) (fnrc : Nat → Int32) (hjr : jr ≤ 30) (hjd : jd < 7) : K_m_from20 l G h0 xx nw nk mhasKept nt mtaped nr mrowMany mroundOf mroundFrom mouts nm mfromHour mtoHour ns mfrom mto msort misFault mdeep mcoded mlines nl nc nF np ntr nb mbestCost nso nsi nit nsh nsf nss nrc jr jd mnumber mwhose msize misParted fnrc := by
  refine MI.start (by decide +kernel) (Nat.le_of_ble_eq_true rfl) ?_
  intro p e s m below meth c A ls hC hK hP hD hS hA hl
  refine absQ (fun Q0 hQ0 => ?_)
  have hl : lv_has ls 5 [(0, .ref h0), (1, .int 2), (2, .int 0), (3, .int xx)] := hl
  refine Kan8 hC (fun hx hb hr hml hB hown hlocks hnm => ?_)
  refine lv_iload_n hx hb gX12_bodyFrom_0.1 rfl (lv_at1 hl) ?_
  refine lv_istore (lv' := [(4, .int 2), (0, .ref h0), (1, .int 2), (2, .int 0), (3, .int xx)]) hx hb gX12_bodyFrom_0.2.1 hl (by decide) rfl (fun ls hl => ?_)
  refine lv_iload hx hb gX12_bodyFrom_0.2.2.1 (lv_at0 hl) ?_
  refine lv_iload_n hx hb gX12_bodyFrom_0.2.2.2.1 rfl (lv_at3 hl) ?_
  refine pS hC hK hl (m_hasOwn20 l G) si_X12_360 rfl rfl (Nat.le_of_ble_eq_true rfl) rm_12_1_2 ⟨by first | exact Nat.le_of_ble_eq_true rfl | exact Nat.zero_le _, by first | exact Nat.le_of_ble_eq_true rfl | exact Nat.zero_le _⟩ gX12_bodyFrom_0.2.2.2.2.1 (Keqr ?_)
  refine lv_if_ne (tgt := 22) hx hb gX12_bodyFrom_0.2.2.2.2.2.1 (by decide) (fun c9 => absurd (by decide) c9) (fun _ => ?_)
  refine lv_iload hx hb gX12_bodyFrom_0.2.2.2.2.2.2.1 (lv_at0 hl) ?_
  refine pS hC hK hl (m_above2 l G) si_X12_348 rfl rfl (Nat.le_of_ble_eq_true rfl) rm_12_1_1 ⟨by first | exact Nat.le_of_ble_eq_true rfl | exact Nat.zero_le _, by first | exact Nat.le_of_ble_eq_true rfl | exact Nat.zero_le _⟩ gX12_bodyFrom_0.2.2.2.2.2.2.2.1 (Keqr ?_)
  refine lv_istore (lv' := [(4, .int 0), (0, .ref h0), (1, .int 2), (2, .int 0), (3, .int xx)]) hx hb gX12_bodyFrom_0.2.2.2.2.2.2.2.2.1 hl (by decide) rfl (fun ls hl => ?_)
  refine lv_goto (tgt := 3) hx hb gX12_bodyFrom_0.2.2.2.2.2.2.2.2.2 (by decide) ?_
  refine lv_iload hx hb gX12_bodyFrom_0.2.2.1 (lv_at0 hl) ?_
  refine lv_iload_n hx hb gX12_bodyFrom_0.2.2.2.1 rfl (lv_at3 hl) ?_
  refine pS hC hK hl (m_hasOwn00 l G) si_X12_360 rfl rfl (Nat.le_of_ble_eq_true rfl) rm_12_1_2 ⟨by first | exact Nat.le_of_ble_eq_true rfl | exact Nat.zero_le _, by first | exact Nat.le_of_ble_eq_true rfl | exact Nat.zero_le _⟩ gX12_bodyFrom_0.2.2.2.2.1 (Keqr ?_)
  refine lv_if_ne (tgt := 22) hx hb gX12_bodyFrom_0.2.2.2.2.2.1 (by decide) (fun _ => ?_) (fun c9 => absurd c9 (by decide))
  refine lv_aload_n hx hb gX12_bodyFrom_1.1 rfl (lv_at1 hl) ?_
  refine lv_iload hx hb gX12_bodyFrom_1.2.1 (lv_at0 hl) ?_
  refine lv_iload_n hx hb gX12_bodyFrom_1.2.2.1 rfl (lv_at3 hl) ?_
  refine lv_iload_n hx hb gX12_bodyFrom_1.2.2.2.1 rfl (lv_at4 hl) ?_
  refine iV (wr := []) hC hK hl hP hD hS hA (m_body00 l G h0 xx nw nk mhasKept nt mtaped nr mrowMany mroundOf mroundFrom mouts nm mfromHour mtoHour ns mfrom mto msort misFault mdeep mcoded mlines nl nc nF np ntr nb mbestCost nso nsi nit nsh nsf nss nrc jr jd mnumber mwhose msize misParted fnrc (hjr) (hjd)) si_X12_363 [0, 1] [] sm_0_1 fm_0_1 nd_0_1 rfl rfl (by decide) rfl rfl rfl rfl rfl (Nat.le_of_ble_eq_true rfl) rm_12_3_6 ⟨Nat.le_of_ble_eq_true rfl, Nat.le_of_ble_eq_true rfl⟩ gX12_bodyFrom_1.2.2.2.2.1 (fun r6103 => Ktu3 fun jr16105 ip16106 gtrc6107 => ?_)
  intro H locs hr6103 hP hD hS
  try dsimp only at hr6103
  refine Kpdr (ws := [(h0, oX12 nw nk mhasKept nt mtaped nr mrowMany mroundOf mroundFrom mouts nm mfromHour mtoHour ns mfrom mto msort misFault mdeep mcoded mlines nl nc nF np ntr nb mbestCost nso nsi nit nsh nsf nss nrc (nI jr16105) (nI jd) mnumber mwhose msize ip16106), (nrc, iA G 30 gtrc6107)]) hP hD (fun hP hD => ?_)
  obtain ⟨hr6103, w6108⟩ := hr6103
  refine toQ hQ0 ?_
  exact RI (v := r6103) hC hP hD hS [0, 1] (jr16105, ip16106, gtrc6107) rfl rfl (by decide) (⟨trivial, by omega⟩) rfl gX12_bodyFrom_1.2.2.2.2.2
def K_m_from30 (l : Launch) (G : GG) (h0 : Nat) (xx : Int32) (nw : Nat) (nk : Nat) (mhasKept : Int32) (nt : Nat) (mtaped : Int32) (nr : Nat) (mrowMany : Int32) (mroundOf : Int32) (mroundFrom : Int32) (mouts : Int32) (nm : Nat) (mfromHour : Int32) (mtoHour : Int32) (ns : Nat) (mfrom : Int32) (mto : Int32) (msort : Int32) (misFault : Int32) (mdeep : Int32) (mcoded : Int32) (mlines : Int32) (nl : Nat) (nc : Nat) (nF : Nat) (np : Nat) (ntr : Nat) (nb : Nat) (mbestCost : Int32) (nso : Nat) (nsi : Nat) (nit : Nat) (nsh : Nat) (nsf : Nat) (nss : Nat) (nrc : Nat) (jr : Nat) (jd : Nat) (mnumber : Int32) (mwhose : Int32) (msize : Int32) (misParted : Int32) (fnrc : Nat → Int32) : Prop := MI l G yX12_bodyFrom cX12_bodyFrom 5 (some .int) 12 0 0 [.ref h0, .int 3, .int 0, .int xx] [(h0, oX12 nw nk mhasKept nt mtaped nr mrowMany mroundOf mroundFrom mouts nm mfromHour mtoHour ns mfrom mto msort misFault mdeep mcoded mlines nl nc nF np ntr nb mbestCost nso nsi nit nsh nsf nss nrc (nI jr) (nI jd) mnumber mwhose msize misParted), (nrc, iA G 30 fnrc)] (fun (r : Int32) (u : Nat × Int32 × (Nat → Int32)) => (True) ∧ (u.1 ≤ 30)) (fun u : Nat × Int32 × (Nat → Int32) => [(h0, oX12 nw nk mhasKept nt mtaped nr mrowMany mroundOf mroundFrom mouts nm mfromHour mtoHour ns mfrom mto msort misFault mdeep mcoded mlines nl nc nF np ntr nb mbestCost nso nsi nit nsh nsf nss nrc (nI u.1) (nI jd) mnumber mwhose msize u.2.1), (nrc, iA G 30 u.2.2)])
set_option maxHeartbeats 4000000 in
set_option maxRecDepth 100000 in
theorem m_from30 (l : Launch) (G : GG) (h0 : Nat) (xx : Int32) (nw : Nat) (nk : Nat) (mhasKept : Int32) (nt : Nat) (mtaped : Int32) (nr : Nat) (mrowMany : Int32) (mroundOf : Int32) (mroundFrom : Int32) (mouts : Int32) (nm : Nat) (mfromHour : Int32) (mtoHour : Int32) (ns : Nat) (mfrom : Int32) (mto : Int32) (msort : Int32) (misFault : Int32) (mdeep : Int32) (mcoded : Int32) (mlines : Int32) (nl : Nat) (nc : Nat) (nF : Nat) (np : Nat) (ntr : Nat) (nb : Nat) (mbestCost : Int32) (nso : Nat) (nsi : Nat) (nit : Nat) (nsh : Nat) (nsf : Nat) (nss : Nat) (nrc : Nat) (jr : Nat) (jd : Nat) (mnumber : Int32) (mwhose : Int32) (msize : Int32) (misParted : Int32) (fnrc : Nat → Int32) (hjr : jr ≤ 30) (hjd : jd < 7) : K_m_from30 l G h0 xx nw nk mhasKept nt mtaped nr mrowMany mroundOf mroundFrom mouts nm mfromHour mtoHour ns mfrom mto msort misFault mdeep mcoded mlines nl nc nF np ntr nb mbestCost nso nsi nit nsh nsf nss nrc jr jd mnumber mwhose msize misParted fnrc := by
  refine MI.start (by decide +kernel) (Nat.le_of_ble_eq_true rfl) ?_
  intro p e s m below meth c A ls hC hK hP hD hS hA hl
  refine absQ (fun Q0 hQ0 => ?_)
  have hl : lv_has ls 5 [(0, .ref h0), (1, .int 3), (2, .int 0), (3, .int xx)] := hl
  refine Kan8 hC (fun hx hb hr hml hB hown hlocks hnm => ?_)
  refine lv_iload_n hx hb gX12_bodyFrom_0.1 rfl (lv_at1 hl) ?_
  refine lv_istore (lv' := [(4, .int 3), (0, .ref h0), (1, .int 3), (2, .int 0), (3, .int xx)]) hx hb gX12_bodyFrom_0.2.1 hl (by decide) rfl (fun ls hl => ?_)
  refine lv_iload hx hb gX12_bodyFrom_0.2.2.1 (lv_at0 hl) ?_
  refine lv_iload_n hx hb gX12_bodyFrom_0.2.2.2.1 rfl (lv_at3 hl) ?_
  refine pS hC hK hl (m_hasOwn30 l G) si_X12_360 rfl rfl (Nat.le_of_ble_eq_true rfl) rm_12_1_2 ⟨by first | exact Nat.le_of_ble_eq_true rfl | exact Nat.zero_le _, by first | exact Nat.le_of_ble_eq_true rfl | exact Nat.zero_le _⟩ gX12_bodyFrom_0.2.2.2.2.1 (Keqr ?_)
  refine lv_if_ne (tgt := 22) hx hb gX12_bodyFrom_0.2.2.2.2.2.1 (by decide) (fun c9 => absurd (by decide) c9) (fun _ => ?_)
  refine lv_iload hx hb gX12_bodyFrom_0.2.2.2.2.2.2.1 (lv_at0 hl) ?_
  refine pS hC hK hl (m_above3 l G) si_X12_348 rfl rfl (Nat.le_of_ble_eq_true rfl) rm_12_1_1 ⟨by first | exact Nat.le_of_ble_eq_true rfl | exact Nat.zero_le _, by first | exact Nat.le_of_ble_eq_true rfl | exact Nat.zero_le _⟩ gX12_bodyFrom_0.2.2.2.2.2.2.2.1 (Keqr ?_)
  refine lv_istore (lv' := [(4, .int 1), (0, .ref h0), (1, .int 3), (2, .int 0), (3, .int xx)]) hx hb gX12_bodyFrom_0.2.2.2.2.2.2.2.2.1 hl (by decide) rfl (fun ls hl => ?_)
  refine lv_goto (tgt := 3) hx hb gX12_bodyFrom_0.2.2.2.2.2.2.2.2.2 (by decide) ?_
  refine lv_iload hx hb gX12_bodyFrom_0.2.2.1 (lv_at0 hl) ?_
  refine lv_iload_n hx hb gX12_bodyFrom_0.2.2.2.1 rfl (lv_at3 hl) ?_
  refine pS hC hK hl (m_hasOwn10 l G) si_X12_360 rfl rfl (Nat.le_of_ble_eq_true rfl) rm_12_1_2 ⟨by first | exact Nat.le_of_ble_eq_true rfl | exact Nat.zero_le _, by first | exact Nat.le_of_ble_eq_true rfl | exact Nat.zero_le _⟩ gX12_bodyFrom_0.2.2.2.2.1 (Keqr ?_)
  refine lv_if_ne (tgt := 22) hx hb gX12_bodyFrom_0.2.2.2.2.2.1 (by decide) (fun c9 => absurd (by decide) c9) (fun _ => ?_)
  refine lv_iload hx hb gX12_bodyFrom_0.2.2.2.2.2.2.1 (lv_at0 hl) ?_
  refine pS hC hK hl (m_above1 l G) si_X12_348 rfl rfl (Nat.le_of_ble_eq_true rfl) rm_12_1_1 ⟨by first | exact Nat.le_of_ble_eq_true rfl | exact Nat.zero_le _, by first | exact Nat.le_of_ble_eq_true rfl | exact Nat.zero_le _⟩ gX12_bodyFrom_0.2.2.2.2.2.2.2.1 (Keqr ?_)
  refine lv_istore (lv' := [(4, .int 0), (0, .ref h0), (1, .int 3), (2, .int 0), (3, .int xx)]) hx hb gX12_bodyFrom_0.2.2.2.2.2.2.2.2.1 hl (by decide) rfl (fun ls hl => ?_)
  refine lv_goto (tgt := 3) hx hb gX12_bodyFrom_0.2.2.2.2.2.2.2.2.2 (by decide) ?_
  refine lv_iload hx hb gX12_bodyFrom_0.2.2.1 (lv_at0 hl) ?_
  refine lv_iload_n hx hb gX12_bodyFrom_0.2.2.2.1 rfl (lv_at3 hl) ?_
  refine pS hC hK hl (m_hasOwn00 l G) si_X12_360 rfl rfl (Nat.le_of_ble_eq_true rfl) rm_12_1_2 ⟨by first | exact Nat.le_of_ble_eq_true rfl | exact Nat.zero_le _, by first | exact Nat.le_of_ble_eq_true rfl | exact Nat.zero_le _⟩ gX12_bodyFrom_0.2.2.2.2.1 (Keqr ?_)
  refine lv_if_ne (tgt := 22) hx hb gX12_bodyFrom_0.2.2.2.2.2.1 (by decide) (fun _ => ?_) (fun c9 => absurd c9 (by decide))
  refine lv_aload_n hx hb gX12_bodyFrom_1.1 rfl (lv_at1 hl) ?_
  refine lv_iload hx hb gX12_bodyFrom_1.2.1 (lv_at0 hl) ?_
  refine lv_iload_n hx hb gX12_bodyFrom_1.2.2.1 rfl (lv_at3 hl) ?_
  refine lv_iload_n hx hb gX12_bodyFrom_1.2.2.2.1 rfl (lv_at4 hl) ?_
  refine iV (wr := []) hC hK hl hP hD hS hA (m_body00 l G h0 xx nw nk mhasKept nt mtaped nr mrowMany mroundOf mroundFrom mouts nm mfromHour mtoHour ns mfrom mto msort misFault mdeep mcoded mlines nl nc nF np ntr nb mbestCost nso nsi nit nsh nsf nss nrc jr jd mnumber mwhose msize misParted fnrc (hjr) (hjd)) si_X12_363 [0, 1] [] sm_0_1 fm_0_1 nd_0_1 rfl rfl (by decide) rfl rfl rfl rfl rfl (Nat.le_of_ble_eq_true rfl) rm_12_3_6 ⟨Nat.le_of_ble_eq_true rfl, Nat.le_of_ble_eq_true rfl⟩ gX12_bodyFrom_1.2.2.2.2.1 (fun r6119 => Ktu3 fun jr16121 ip16122 gtrc6123 => ?_)
  intro H locs hr6119 hP hD hS
  try dsimp only at hr6119
  refine Kpdr (ws := [(h0, oX12 nw nk mhasKept nt mtaped nr mrowMany mroundOf mroundFrom mouts nm mfromHour mtoHour ns mfrom mto msort misFault mdeep mcoded mlines nl nc nF np ntr nb mbestCost nso nsi nit nsh nsf nss nrc (nI jr16121) (nI jd) mnumber mwhose msize ip16122), (nrc, iA G 30 gtrc6123)]) hP hD (fun hP hD => ?_)
  obtain ⟨hr6119, w6124⟩ := hr6119
  refine toQ hQ0 ?_
  exact RI (v := r6119) hC hP hD hS [0, 1] (jr16121, ip16122, gtrc6123) rfl rfl (by decide) (⟨trivial, by omega⟩) rfl gX12_bodyFrom_1.2.2.2.2.2
def K_m_from60 (l : Launch) (G : GG) (h0 : Nat) (xx : Int32) (nw : Nat) (nk : Nat) (mhasKept : Int32) (nt : Nat) (mtaped : Int32) (nr : Nat) (mrowMany : Int32) (mroundOf : Int32) (mroundFrom : Int32) (mouts : Int32) (nm : Nat) (mfromHour : Int32) (mtoHour : Int32) (ns : Nat) (mfrom : Int32) (mto : Int32) (msort : Int32) (misFault : Int32) (mdeep : Int32) (mcoded : Int32) (mlines : Int32) (nl : Nat) (nc : Nat) (nF : Nat) (np : Nat) (ntr : Nat) (nb : Nat) (mbestCost : Int32) (nso : Nat) (nsi : Nat) (nit : Nat) (nsh : Nat) (nsf : Nat) (nss : Nat) (nrc : Nat) (jr : Nat) (jd : Nat) (mnumber : Int32) (mwhose : Int32) (msize : Int32) (misParted : Int32) (fnrc : Nat → Int32) : Prop := MI l G yX12_bodyFrom cX12_bodyFrom 5 (some .int) 12 0 0 [.ref h0, .int 6, .int 0, .int xx] [(h0, oX12 nw nk mhasKept nt mtaped nr mrowMany mroundOf mroundFrom mouts nm mfromHour mtoHour ns mfrom mto msort misFault mdeep mcoded mlines nl nc nF np ntr nb mbestCost nso nsi nit nsh nsf nss nrc (nI jr) (nI jd) mnumber mwhose msize misParted), (nrc, iA G 30 fnrc)] (fun (r : Int32) (u : Nat × Int32 × (Nat → Int32)) => (True) ∧ (u.1 ≤ 30)) (fun u : Nat × Int32 × (Nat → Int32) => [(h0, oX12 nw nk mhasKept nt mtaped nr mrowMany mroundOf mroundFrom mouts nm mfromHour mtoHour ns mfrom mto msort misFault mdeep mcoded mlines nl nc nF np ntr nb mbestCost nso nsi nit nsh nsf nss nrc (nI u.1) (nI jd) mnumber mwhose msize u.2.1), (nrc, iA G 30 u.2.2)])
set_option maxHeartbeats 4000000 in
set_option maxRecDepth 100000 in
theorem m_from60 (l : Launch) (G : GG) (h0 : Nat) (xx : Int32) (nw : Nat) (nk : Nat) (mhasKept : Int32) (nt : Nat) (mtaped : Int32) (nr : Nat) (mrowMany : Int32) (mroundOf : Int32) (mroundFrom : Int32) (mouts : Int32) (nm : Nat) (mfromHour : Int32) (mtoHour : Int32) (ns : Nat) (mfrom : Int32) (mto : Int32) (msort : Int32) (misFault : Int32) (mdeep : Int32) (mcoded : Int32) (mlines : Int32) (nl : Nat) (nc : Nat) (nF : Nat) (np : Nat) (ntr : Nat) (nb : Nat) (mbestCost : Int32) (nso : Nat) (nsi : Nat) (nit : Nat) (nsh : Nat) (nsf : Nat) (nss : Nat) (nrc : Nat) (jr : Nat) (jd : Nat) (mnumber : Int32) (mwhose : Int32) (msize : Int32) (misParted : Int32) (fnrc : Nat → Int32) (hjr : jr ≤ 30) (hjd : jd < 7) : K_m_from60 l G h0 xx nw nk mhasKept nt mtaped nr mrowMany mroundOf mroundFrom mouts nm mfromHour mtoHour ns mfrom mto msort misFault mdeep mcoded mlines nl nc nF np ntr nb mbestCost nso nsi nit nsh nsf nss nrc jr jd mnumber mwhose msize misParted fnrc := by
  refine MI.start (by decide +kernel) (Nat.le_of_ble_eq_true rfl) ?_
  intro p e s m below meth c A ls hC hK hP hD hS hA hl
  refine absQ (fun Q0 hQ0 => ?_)
  have hl : lv_has ls 5 [(0, .ref h0), (1, .int 6), (2, .int 0), (3, .int xx)] := hl
  refine Kan8 hC (fun hx hb hr hml hB hown hlocks hnm => ?_)
  refine lv_iload_n hx hb gX12_bodyFrom_0.1 rfl (lv_at1 hl) ?_
  refine lv_istore (lv' := [(4, .int 6), (0, .ref h0), (1, .int 6), (2, .int 0), (3, .int xx)]) hx hb gX12_bodyFrom_0.2.1 hl (by decide) rfl (fun ls hl => ?_)
  refine lv_iload hx hb gX12_bodyFrom_0.2.2.1 (lv_at0 hl) ?_
  refine lv_iload_n hx hb gX12_bodyFrom_0.2.2.2.1 rfl (lv_at3 hl) ?_
  refine pS hC hK hl (m_hasOwn60 l G) si_X12_360 rfl rfl (Nat.le_of_ble_eq_true rfl) rm_12_1_2 ⟨by first | exact Nat.le_of_ble_eq_true rfl | exact Nat.zero_le _, by first | exact Nat.le_of_ble_eq_true rfl | exact Nat.zero_le _⟩ gX12_bodyFrom_0.2.2.2.2.1 (Keqr ?_)
  refine lv_if_ne (tgt := 22) hx hb gX12_bodyFrom_0.2.2.2.2.2.1 (by decide) (fun c9 => absurd (by decide) c9) (fun _ => ?_)
  refine lv_iload hx hb gX12_bodyFrom_0.2.2.2.2.2.2.1 (lv_at0 hl) ?_
  refine pS hC hK hl (m_above6 l G) si_X12_348 rfl rfl (Nat.le_of_ble_eq_true rfl) rm_12_1_1 ⟨by first | exact Nat.le_of_ble_eq_true rfl | exact Nat.zero_le _, by first | exact Nat.le_of_ble_eq_true rfl | exact Nat.zero_le _⟩ gX12_bodyFrom_0.2.2.2.2.2.2.2.1 (Keqr ?_)
  refine lv_istore (lv' := [(4, .int 0), (0, .ref h0), (1, .int 6), (2, .int 0), (3, .int xx)]) hx hb gX12_bodyFrom_0.2.2.2.2.2.2.2.2.1 hl (by decide) rfl (fun ls hl => ?_)
  refine lv_goto (tgt := 3) hx hb gX12_bodyFrom_0.2.2.2.2.2.2.2.2.2 (by decide) ?_
  refine lv_iload hx hb gX12_bodyFrom_0.2.2.1 (lv_at0 hl) ?_
  refine lv_iload_n hx hb gX12_bodyFrom_0.2.2.2.1 rfl (lv_at3 hl) ?_
  refine pS hC hK hl (m_hasOwn00 l G) si_X12_360 rfl rfl (Nat.le_of_ble_eq_true rfl) rm_12_1_2 ⟨by first | exact Nat.le_of_ble_eq_true rfl | exact Nat.zero_le _, by first | exact Nat.le_of_ble_eq_true rfl | exact Nat.zero_le _⟩ gX12_bodyFrom_0.2.2.2.2.1 (Keqr ?_)
  refine lv_if_ne (tgt := 22) hx hb gX12_bodyFrom_0.2.2.2.2.2.1 (by decide) (fun _ => ?_) (fun c9 => absurd c9 (by decide))
  refine lv_aload_n hx hb gX12_bodyFrom_1.1 rfl (lv_at1 hl) ?_
  refine lv_iload hx hb gX12_bodyFrom_1.2.1 (lv_at0 hl) ?_
  refine lv_iload_n hx hb gX12_bodyFrom_1.2.2.1 rfl (lv_at3 hl) ?_
  refine lv_iload_n hx hb gX12_bodyFrom_1.2.2.2.1 rfl (lv_at4 hl) ?_
  refine iV (wr := []) hC hK hl hP hD hS hA (m_body00 l G h0 xx nw nk mhasKept nt mtaped nr mrowMany mroundOf mroundFrom mouts nm mfromHour mtoHour ns mfrom mto msort misFault mdeep mcoded mlines nl nc nF np ntr nb mbestCost nso nsi nit nsh nsf nss nrc jr jd mnumber mwhose msize misParted fnrc (hjr) (hjd)) si_X12_363 [0, 1] [] sm_0_1 fm_0_1 nd_0_1 rfl rfl (by decide) rfl rfl rfl rfl rfl (Nat.le_of_ble_eq_true rfl) rm_12_3_6 ⟨Nat.le_of_ble_eq_true rfl, Nat.le_of_ble_eq_true rfl⟩ gX12_bodyFrom_1.2.2.2.2.1 (fun r6131 => Ktu3 fun jr16133 ip16134 gtrc6135 => ?_)
  intro H locs hr6131 hP hD hS
  try dsimp only at hr6131
  refine Kpdr (ws := [(h0, oX12 nw nk mhasKept nt mtaped nr mrowMany mroundOf mroundFrom mouts nm mfromHour mtoHour ns mfrom mto msort misFault mdeep mcoded mlines nl nc nF np ntr nb mbestCost nso nsi nit nsh nsf nss nrc (nI jr16133) (nI jd) mnumber mwhose msize ip16134), (nrc, iA G 30 gtrc6135)]) hP hD (fun hP hD => ?_)
  obtain ⟨hr6131, w6136⟩ := hr6131
  refine toQ hQ0 ?_
  exact RI (v := r6131) hC hP hD hS [0, 1] (jr16133, ip16134, gtrc6135) rfl rfl (by decide) (⟨trivial, by omega⟩) rfl gX12_bodyFrom_1.2.2.2.2.2
def K_m_dealt0 (l : Launch) (G : GG) (h0 : Nat) (xx : Int32) (nw : Nat) (nk : Nat) (mhasKept : Int32) (nt : Nat) (mtaped : Int32) (nr : Nat) (mrowMany : Int32) (mroundOf : Int32) (mroundFrom : Int32) (mouts : Int32) (nm : Nat) (mfromHour : Int32) (mtoHour : Int32) (ns : Nat) (mfrom : Int32) (mto : Int32) (msort : Int32) (misFault : Int32) (mdeep : Int32) (mcoded : Int32) (mlines : Int32) (nl : Nat) (nc : Nat) (nF : Nat) (np : Nat) (ntr : Nat) (nb : Nat) (mbestCost : Int32) (nso : Nat) (nsi : Nat) (nit : Nat) (nsh : Nat) (nsf : Nat) (nss : Nat) (nrc : Nat) (jr : Nat) (jd : Nat) (mnumber : Int32) (mwhose : Int32) (msize : Int32) (misParted : Int32) (fnrc : Nat → Int32) : Prop := MI l G yX12_dealt cX12_dealt 3 (some .int) 14 0 0 [.ref h0, .int 0, .int xx] [(h0, oX12 nw nk mhasKept nt mtaped nr mrowMany mroundOf mroundFrom mouts nm mfromHour mtoHour ns mfrom mto msort misFault mdeep mcoded mlines nl nc nF np ntr nb mbestCost nso nsi nit nsh nsf nss nrc (nI jr) (nI jd) mnumber mwhose msize misParted), (nrc, iA G 30 fnrc)] (fun (r : Int32) (u : Nat × Int32 × (Nat → Int32)) => (True) ∧ (u.1 ≤ 30)) (fun u : Nat × Int32 × (Nat → Int32) => [(h0, oX12 nw nk mhasKept nt mtaped nr mrowMany mroundOf mroundFrom mouts nm mfromHour mtoHour ns mfrom mto msort misFault mdeep mcoded mlines nl nc nF np ntr nb mbestCost nso nsi nit nsh nsf nss nrc (nI u.1) (nI jd) mnumber mwhose msize u.2.1), (nrc, iA G 30 u.2.2)])
set_option maxHeartbeats 4000000 in
set_option maxRecDepth 100000 in
theorem m_dealt0 (l : Launch) (G : GG) (h0 : Nat) (xx : Int32) (nw : Nat) (nk : Nat) (mhasKept : Int32) (nt : Nat) (mtaped : Int32) (nr : Nat) (mrowMany : Int32) (mroundOf : Int32) (mroundFrom : Int32) (mouts : Int32) (nm : Nat) (mfromHour : Int32) (mtoHour : Int32) (ns : Nat) (mfrom : Int32) (mto : Int32) (msort : Int32) (misFault : Int32) (mdeep : Int32) (mcoded : Int32) (mlines : Int32) (nl : Nat) (nc : Nat) (nF : Nat) (np : Nat) (ntr : Nat) (nb : Nat) (mbestCost : Int32) (nso : Nat) (nsi : Nat) (nit : Nat) (nsh : Nat) (nsf : Nat) (nss : Nat) (nrc : Nat) (jr : Nat) (jd : Nat) (mnumber : Int32) (mwhose : Int32) (msize : Int32) (misParted : Int32) (fnrc : Nat → Int32) (hjr : jr ≤ 30) (hjd : jd < 7) : K_m_dealt0 l G h0 xx nw nk mhasKept nt mtaped nr mrowMany mroundOf mroundFrom mouts nm mfromHour mtoHour ns mfrom mto msort misFault mdeep mcoded mlines nl nc nF np ntr nb mbestCost nso nsi nit nsh nsf nss nrc jr jd mnumber mwhose msize misParted fnrc := by
  refine MI.start (by decide +kernel) (Nat.le_of_ble_eq_true rfl) ?_
  intro p e s m below meth c A ls hC hK hP hD hS hA hl
  refine absQ (fun Q0 hQ0 => ?_)
  have hl : lv_has ls 3 [(0, .ref h0), (1, .int 0), (2, .int xx)] := hl
  refine Kan8 hC (fun hx hb hr hml hB hown hlocks hnm => ?_)
  refine lv_aload_n hx hb gX12_dealt_0.1 rfl (lv_at0 hl) ?_
  refine lv_aload_n hx hb gX12_dealt_0.2.1 rfl (lv_at0 hl) ?_
  refine gf_X12_354 hC rfl hK hP 0 rfl rfl gX12_dealt_0.2.2.1 ?_
  refine lv_iload_n hx hb gX12_dealt_0.2.2.2.1 rfl (lv_at1 hl) ?_
  refine lv_iload_n hx hb gX12_dealt_0.2.2.2.2.1 rfl (lv_at2 hl) ?_
  rcases (show jd = 0 ∨ jd = 1 ∨ jd = 2 ∨ jd = 3 ∨ jd = 4 ∨ jd = 5 ∨ jd = 6 by omega) with rfl | rfl | rfl | rfl | rfl | rfl | rfl
  · refine iV (wr := []) hC hK hl hP hD hS hA (m_from00 l G h0 xx nw nk mhasKept nt mtaped nr mrowMany mroundOf mroundFrom mouts nm mfromHour mtoHour ns mfrom mto msort misFault mdeep mcoded mlines nl nc nF np ntr nb mbestCost nso nsi nit nsh nsf nss nrc jr 0 mnumber mwhose msize misParted fnrc (hjr) (hjd)) si_X12_357 [0, 1] [] sm_0_1 fm_0_1 nd_0_1 rfl rfl (by decide) rfl rfl rfl rfl rfl (Nat.le_of_ble_eq_true rfl) rm_14_4_5 ⟨Nat.le_of_ble_eq_true rfl, Nat.le_of_ble_eq_true rfl⟩ gX12_dealt_0.2.2.2.2.2.1 (fun r6137 => Ktu3 fun jr16139 ip16140 gtrc6141 => ?_)
    intro H locs hr6137 hP hD hS
    try dsimp only at hr6137
    refine Kpdr (ws := [(h0, oX12 nw nk mhasKept nt mtaped nr mrowMany mroundOf mroundFrom mouts nm mfromHour mtoHour ns mfrom mto msort misFault mdeep mcoded mlines nl nc nF np ntr nb mbestCost nso nsi nit nsh nsf nss nrc (nI jr16139) 0 mnumber mwhose msize ip16140), (nrc, iA G 30 gtrc6141)]) hP hD (fun hP hD => ?_)
    obtain ⟨hr6137, w6142⟩ := hr6137
    refine toQ hQ0 ?_
    exact RI (v := r6137) hC hP hD hS [0, 1] (jr16139, ip16140, gtrc6141) rfl rfl (by decide) (⟨trivial, by omega⟩) rfl gX12_dealt_0.2.2.2.2.2.2
  · refine iV (wr := []) hC hK hl hP hD hS hA (m_from10 l G h0 xx nw nk mhasKept nt mtaped nr mrowMany mroundOf mroundFrom mouts nm mfromHour mtoHour ns mfrom mto msort misFault mdeep mcoded mlines nl nc nF np ntr nb mbestCost nso nsi nit nsh nsf nss nrc jr 1 mnumber mwhose msize misParted fnrc (hjr) (hjd)) si_X12_357 [0, 1] [] sm_0_1 fm_0_1 nd_0_1 rfl rfl (by decide) rfl rfl rfl rfl rfl (Nat.le_of_ble_eq_true rfl) rm_14_12_5 ⟨Nat.le_of_ble_eq_true rfl, Nat.le_of_ble_eq_true rfl⟩ gX12_dealt_0.2.2.2.2.2.1 (fun r6143 => Ktu3 fun jr16145 ip16146 gtrc6147 => ?_)
    intro H locs hr6143 hP hD hS
    try dsimp only at hr6143
    refine Kpdr (ws := [(h0, oX12 nw nk mhasKept nt mtaped nr mrowMany mroundOf mroundFrom mouts nm mfromHour mtoHour ns mfrom mto msort misFault mdeep mcoded mlines nl nc nF np ntr nb mbestCost nso nsi nit nsh nsf nss nrc (nI jr16145) 1 mnumber mwhose msize ip16146), (nrc, iA G 30 gtrc6147)]) hP hD (fun hP hD => ?_)
    obtain ⟨hr6143, w6148⟩ := hr6143
    refine toQ hQ0 ?_
    exact RI (v := r6143) hC hP hD hS [0, 1] (jr16145, ip16146, gtrc6147) rfl rfl (by decide) (⟨trivial, by omega⟩) rfl gX12_dealt_0.2.2.2.2.2.2
  · refine iV (wr := []) hC hK hl hP hD hS hA (m_from20 l G h0 xx nw nk mhasKept nt mtaped nr mrowMany mroundOf mroundFrom mouts nm mfromHour mtoHour ns mfrom mto msort misFault mdeep mcoded mlines nl nc nF np ntr nb mbestCost nso nsi nit nsh nsf nss nrc jr 2 mnumber mwhose msize misParted fnrc (hjr) (hjd)) si_X12_357 [0, 1] [] sm_0_1 fm_0_1 nd_0_1 rfl rfl (by decide) rfl rfl rfl rfl rfl (Nat.le_of_ble_eq_true rfl) rm_14_12_5 ⟨Nat.le_of_ble_eq_true rfl, Nat.le_of_ble_eq_true rfl⟩ gX12_dealt_0.2.2.2.2.2.1 (fun r6149 => Ktu3 fun jr16151 ip16152 gtrc6153 => ?_)
    intro H locs hr6149 hP hD hS
    try dsimp only at hr6149
    refine Kpdr (ws := [(h0, oX12 nw nk mhasKept nt mtaped nr mrowMany mroundOf mroundFrom mouts nm mfromHour mtoHour ns mfrom mto msort misFault mdeep mcoded mlines nl nc nF np ntr nb mbestCost nso nsi nit nsh nsf nss nrc (nI jr16151) 2 mnumber mwhose msize ip16152), (nrc, iA G 30 gtrc6153)]) hP hD (fun hP hD => ?_)
    obtain ⟨hr6149, w6154⟩ := hr6149
    refine toQ hQ0 ?_
    exact RI (v := r6149) hC hP hD hS [0, 1] (jr16151, ip16152, gtrc6153) rfl rfl (by decide) (⟨trivial, by omega⟩) rfl gX12_dealt_0.2.2.2.2.2.2
  · refine iV (wr := []) hC hK hl hP hD hS hA (m_from30 l G h0 xx nw nk mhasKept nt mtaped nr mrowMany mroundOf mroundFrom mouts nm mfromHour mtoHour ns mfrom mto msort misFault mdeep mcoded mlines nl nc nF np ntr nb mbestCost nso nsi nit nsh nsf nss nrc jr 3 mnumber mwhose msize misParted fnrc (hjr) (hjd)) si_X12_357 [0, 1] [] sm_0_1 fm_0_1 nd_0_1 rfl rfl (by decide) rfl rfl rfl rfl rfl (Nat.le_of_ble_eq_true rfl) rm_14_12_5 ⟨Nat.le_of_ble_eq_true rfl, Nat.le_of_ble_eq_true rfl⟩ gX12_dealt_0.2.2.2.2.2.1 (fun r6155 => Ktu3 fun jr16157 ip16158 gtrc6159 => ?_)
    intro H locs hr6155 hP hD hS
    try dsimp only at hr6155
    refine Kpdr (ws := [(h0, oX12 nw nk mhasKept nt mtaped nr mrowMany mroundOf mroundFrom mouts nm mfromHour mtoHour ns mfrom mto msort misFault mdeep mcoded mlines nl nc nF np ntr nb mbestCost nso nsi nit nsh nsf nss nrc (nI jr16157) 3 mnumber mwhose msize ip16158), (nrc, iA G 30 gtrc6159)]) hP hD (fun hP hD => ?_)
    obtain ⟨hr6155, w6160⟩ := hr6155
    refine toQ hQ0 ?_
    exact RI (v := r6155) hC hP hD hS [0, 1] (jr16157, ip16158, gtrc6159) rfl rfl (by decide) (⟨trivial, by omega⟩) rfl gX12_dealt_0.2.2.2.2.2.2
  · refine iV (wr := []) hC hK hl hP hD hS hA (m_from40 l G h0 xx nw nk mhasKept nt mtaped nr mrowMany mroundOf mroundFrom mouts nm mfromHour mtoHour ns mfrom mto msort misFault mdeep mcoded mlines nl nc nF np ntr nb mbestCost nso nsi nit nsh nsf nss nrc jr 4 mnumber mwhose msize misParted fnrc (hjr) (hjd)) si_X12_357 [0, 1] [] sm_0_1 fm_0_1 nd_0_1 rfl rfl (by decide) rfl rfl rfl rfl rfl (Nat.le_of_ble_eq_true rfl) rm_14_6_5 ⟨Nat.le_of_ble_eq_true rfl, Nat.le_of_ble_eq_true rfl⟩ gX12_dealt_0.2.2.2.2.2.1 (fun r6161 => Ktu3 fun jr16163 ip16164 gtrc6165 => ?_)
    intro H locs hr6161 hP hD hS
    try dsimp only at hr6161
    refine Kpdr (ws := [(h0, oX12 nw nk mhasKept nt mtaped nr mrowMany mroundOf mroundFrom mouts nm mfromHour mtoHour ns mfrom mto msort misFault mdeep mcoded mlines nl nc nF np ntr nb mbestCost nso nsi nit nsh nsf nss nrc (nI jr16163) 4 mnumber mwhose msize ip16164), (nrc, iA G 30 gtrc6165)]) hP hD (fun hP hD => ?_)
    obtain ⟨hr6161, w6166⟩ := hr6161
    refine toQ hQ0 ?_
    exact RI (v := r6161) hC hP hD hS [0, 1] (jr16163, ip16164, gtrc6165) rfl rfl (by decide) (⟨trivial, by omega⟩) rfl gX12_dealt_0.2.2.2.2.2.2
  · refine iV (wr := []) hC hK hl hP hD hS hA (m_from50 l G h0 xx nw nk mhasKept nt mtaped nr mrowMany mroundOf mroundFrom mouts nm mfromHour mtoHour ns mfrom mto msort misFault mdeep mcoded mlines nl nc nF np ntr nb mbestCost nso nsi nit nsh nsf nss nrc jr 5 mnumber mwhose msize misParted fnrc (hjr) (hjd)) si_X12_357 [0, 1] [] sm_0_1 fm_0_1 nd_0_1 rfl rfl (by decide) rfl rfl rfl rfl rfl (Nat.le_of_ble_eq_true rfl) rm_14_8_5 ⟨Nat.le_of_ble_eq_true rfl, Nat.le_of_ble_eq_true rfl⟩ gX12_dealt_0.2.2.2.2.2.1 (fun r6167 => Ktu3 fun jr16169 ip16170 gtrc6171 => ?_)
    intro H locs hr6167 hP hD hS
    try dsimp only at hr6167
    refine Kpdr (ws := [(h0, oX12 nw nk mhasKept nt mtaped nr mrowMany mroundOf mroundFrom mouts nm mfromHour mtoHour ns mfrom mto msort misFault mdeep mcoded mlines nl nc nF np ntr nb mbestCost nso nsi nit nsh nsf nss nrc (nI jr16169) 5 mnumber mwhose msize ip16170), (nrc, iA G 30 gtrc6171)]) hP hD (fun hP hD => ?_)
    obtain ⟨hr6167, w6172⟩ := hr6167
    refine toQ hQ0 ?_
    exact RI (v := r6167) hC hP hD hS [0, 1] (jr16169, ip16170, gtrc6171) rfl rfl (by decide) (⟨trivial, by omega⟩) rfl gX12_dealt_0.2.2.2.2.2.2
  · refine iV (wr := []) hC hK hl hP hD hS hA (m_from60 l G h0 xx nw nk mhasKept nt mtaped nr mrowMany mroundOf mroundFrom mouts nm mfromHour mtoHour ns mfrom mto msort misFault mdeep mcoded mlines nl nc nF np ntr nb mbestCost nso nsi nit nsh nsf nss nrc jr 6 mnumber mwhose msize misParted fnrc (hjr) (hjd)) si_X12_357 [0, 1] [] sm_0_1 fm_0_1 nd_0_1 rfl rfl (by decide) rfl rfl rfl rfl rfl (Nat.le_of_ble_eq_true rfl) rm_14_12_5 ⟨Nat.le_of_ble_eq_true rfl, Nat.le_of_ble_eq_true rfl⟩ gX12_dealt_0.2.2.2.2.2.1 (fun r6173 => Ktu3 fun jr16175 ip16176 gtrc6177 => ?_)
    intro H locs hr6173 hP hD hS
    try dsimp only at hr6173
    refine Kpdr (ws := [(h0, oX12 nw nk mhasKept nt mtaped nr mrowMany mroundOf mroundFrom mouts nm mfromHour mtoHour ns mfrom mto msort misFault mdeep mcoded mlines nl nc nF np ntr nb mbestCost nso nsi nit nsh nsf nss nrc (nI jr16175) 6 mnumber mwhose msize ip16176), (nrc, iA G 30 gtrc6177)]) hP hD (fun hP hD => ?_)
    obtain ⟨hr6173, w6178⟩ := hr6173
    refine toQ hQ0 ?_
    exact RI (v := r6173) hC hP hD hS [0, 1] (jr16175, ip16176, gtrc6177) rfl rfl (by decide) (⟨trivial, by omega⟩) rfl gX12_dealt_0.2.2.2.2.2.2
def K_m_body01 (l : Launch) (G : GG) (h0 : Nat) (xx : Int32) (nw : Nat) (nk : Nat) (mhasKept : Int32) (nt : Nat) (mtaped : Int32) (nr : Nat) (mrowMany : Int32) (mroundOf : Int32) (mroundFrom : Int32) (mouts : Int32) (nm : Nat) (mfromHour : Int32) (mtoHour : Int32) (ns : Nat) (mfrom : Int32) (mto : Int32) (msort : Int32) (misFault : Int32) (mdeep : Int32) (mcoded : Int32) (mlines : Int32) (nl : Nat) (nc : Nat) (nF : Nat) (np : Nat) (ntr : Nat) (nb : Nat) (mbestCost : Int32) (nso : Nat) (nsi : Nat) (nit : Nat) (nsh : Nat) (nsf : Nat) (nss : Nat) (nrc : Nat) (jr : Nat) (jd : Nat) (mnumber : Int32) (mwhose : Int32) (msize : Int32) (misParted : Int32) (fnrc : Nat → Int32) : Prop := MI l G yX12_body cX12_body 6 (some .int) 15 0 0 [.ref h0, .int 0, .int 1, .int xx] [(h0, oX12 nw nk mhasKept nt mtaped nr mrowMany mroundOf mroundFrom mouts nm mfromHour mtoHour ns mfrom mto msort misFault mdeep mcoded mlines nl nc nF np ntr nb mbestCost nso nsi nit nsh nsf nss nrc (nI jr) (nI jd) mnumber mwhose msize misParted), (nrc, iA G 30 fnrc)] (fun (r : Int32) (u : Nat × Int32 × (Nat → Int32)) => (True) ∧ (u.1 ≤ 30)) (fun u : Nat × Int32 × (Nat → Int32) => [(h0, oX12 nw nk mhasKept nt mtaped nr mrowMany mroundOf mroundFrom mouts nm mfromHour mtoHour ns mfrom mto msort misFault mdeep mcoded mlines nl nc nF np ntr nb mbestCost nso nsi nit nsh nsf nss nrc (nI u.1) (nI jd) mnumber mwhose msize u.2.1), (nrc, iA G 30 u.2.2)])
set_option maxHeartbeats 4000000 in
set_option maxRecDepth 100000 in
theorem m_body01 (l : Launch) (G : GG) (h0 : Nat) (xx : Int32) (nw : Nat) (nk : Nat) (mhasKept : Int32) (nt : Nat) (mtaped : Int32) (nr : Nat) (mrowMany : Int32) (mroundOf : Int32) (mroundFrom : Int32) (mouts : Int32) (nm : Nat) (mfromHour : Int32) (mtoHour : Int32) (ns : Nat) (mfrom : Int32) (mto : Int32) (msort : Int32) (misFault : Int32) (mdeep : Int32) (mcoded : Int32) (mlines : Int32) (nl : Nat) (nc : Nat) (nF : Nat) (np : Nat) (ntr : Nat) (nb : Nat) (mbestCost : Int32) (nso : Nat) (nsi : Nat) (nit : Nat) (nsh : Nat) (nsf : Nat) (nss : Nat) (nrc : Nat) (jr : Nat) (jd : Nat) (mnumber : Int32) (mwhose : Int32) (msize : Int32) (misParted : Int32) (fnrc : Nat → Int32) (hjr : jr ≤ 30) (hjd : jd < 7) : K_m_body01 l G h0 xx nw nk mhasKept nt mtaped nr mrowMany mroundOf mroundFrom mouts nm mfromHour mtoHour ns mfrom mto msort misFault mdeep mcoded mlines nl nc nF np ntr nb mbestCost nso nsi nit nsh nsf nss nrc jr jd mnumber mwhose msize misParted fnrc := by
  refine MI.start (by decide +kernel) (Nat.le_of_ble_eq_true rfl) ?_
  intro p e s m below meth c A ls hC hK hP hD hS hA hl
  refine absQ (fun Q0 hQ0 => ?_)
  have hl : lv_has ls 6 [(0, .ref h0), (1, .int 0), (2, .int 1), (3, .int xx)] := hl
  refine Kan8 hC (fun hx hb hr hml hB hown hlocks hnm => ?_)
  refine lv_iconst (v := 4) hx hb gX12_body_0.1 (by decide) ?_
  refine lv_iload_n hx hb gX12_body_0.2.1 rfl (lv_at1 hl) ?_
  refine lv_imul hx hb gX12_body_0.2.2.1 ?_
  refine eqi (x1 := 0) (by decide) ?_
  refine lv_iload_n hx hb gX12_body_0.2.2.2.1 rfl (lv_at2 hl) ?_
  refine lv_iadd hx hb gX12_body_0.2.2.2.2.1 ?_
  refine eqi (x1 := 1) (by decide) ?_
  refine lv_tableIn (tgt := 125) hx hb gX12_body_0.2.2.2.2.2.1 (by decide) (by decide) rfl (by decide) ?_
  refine lv_aload_n hx hb gX12_body_1.2.2.2.2.1 rfl (lv_at0 hl) ?_
  refine lv_bipush (v := 11) hx hb gX12_body_1.2.2.2.2.2.1 (by decide) ?_
  refine vV (wr := []) hC hK hl hP hD hS hA (m_began l G h0 11 nw nk mhasKept nt mtaped nr mrowMany mroundOf mroundFrom mouts nm mfromHour mtoHour ns mfrom mto msort misFault mdeep mcoded mlines nl nc nF np ntr nb mbestCost nso nsi nit nsh nsf nss nrc jr (nI jd) mnumber mwhose msize misParted fnrc (hjr)) si_X12_366 [0, 1] [] sm_0_1 fm_0_1 nd_0_1 rfl rfl (by decide) rfl rfl rfl rfl rfl (Nat.le_of_ble_eq_true rfl) rm_15_1_2 ⟨Nat.le_of_ble_eq_true rfl, Nat.le_of_ble_eq_true rfl⟩ gX12_body_1.2.2.2.2.2.2.1 (Ktu2 fun jr16181 gtrc6182 => ?_)
  intro H locs hr6179 hP hD hS
  try dsimp only at hr6179
  refine Kpdr (ws := [(h0, oX12 nw nk mhasKept nt mtaped nr mrowMany mroundOf mroundFrom mouts nm mfromHour mtoHour ns mfrom mto msort misFault mdeep mcoded mlines nl nc nF np ntr nb mbestCost nso nsi nit nsh nsf nss nrc (nI jr16181) (nI jd) mnumber mwhose msize misParted), (nrc, iA G 30 gtrc6182)]) hP hD (fun hP hD => ?_)
  have w6183 := hr6179
  refine lv_aload_n hx hb gX12_body_1.2.2.2.2.2.2.2.1 rfl (lv_at0 hl) ?_
  refine lv_iconst (v := 0) hx hb gX12_body_1.2.2.2.2.2.2.2.2.1 (by decide) ?_
  refine lv_iload_n hx hb gX12_body_1.2.2.2.2.2.2.2.2.2 rfl (lv_at3 hl) ?_
  refine iV (wr := []) hC hK hl hP hD hS hA (m_dealt0 l G h0 xx nw nk mhasKept nt mtaped nr mrowMany mroundOf mroundFrom mouts nm mfromHour mtoHour ns mfrom mto msort misFault mdeep mcoded mlines nl nc nF np ntr nb mbestCost nso nsi nit nsh nsf nss nrc jr16181 jd mnumber mwhose msize misParted gtrc6182 (w6183) (hjd)) si_X12_372 [0, 1] [] sm_0_1 fm_0_1 nd_0_1 rfl rfl (by decide) rfl rfl rfl rfl rfl (Nat.le_of_ble_eq_true rfl) rm_15_14_3 ⟨Nat.le_of_ble_eq_true rfl, Nat.le_of_ble_eq_true rfl⟩ gX12_body_2.1 (fun r6184 => Ktu3 fun jr16186 ip16187 gtrc6188 => ?_)
  intro H locs hr6184 hP hD hS
  try dsimp only at hr6184
  refine Kpdr (ws := [(h0, oX12 nw nk mhasKept nt mtaped nr mrowMany mroundOf mroundFrom mouts nm mfromHour mtoHour ns mfrom mto msort misFault mdeep mcoded mlines nl nc nF np ntr nb mbestCost nso nsi nit nsh nsf nss nrc (nI jr16186) (nI jd) mnumber mwhose msize ip16187), (nrc, iA G 30 gtrc6188)]) hP hD (fun hP hD => ?_)
  obtain ⟨hr6184, w6189⟩ := hr6184
  refine lv_iconst (v := 2) hx hb gX12_body_2.2.1 (by decide) ?_
  refine lv_imul hx hb gX12_body_2.2.2.1 ?_
  refine toQ hQ0 ?_
  exact RI (v := r6184 * 2) hC hP hD hS [0, 1] (jr16186, ip16187, gtrc6188) rfl rfl (by decide) (⟨trivial, by omega⟩) rfl gX12_body_2.2.2.2.1
def K_m_from01 (l : Launch) (G : GG) (h0 : Nat) (xx : Int32) (nw : Nat) (nk : Nat) (mhasKept : Int32) (nt : Nat) (mtaped : Int32) (nr : Nat) (mrowMany : Int32) (mroundOf : Int32) (mroundFrom : Int32) (mouts : Int32) (nm : Nat) (mfromHour : Int32) (mtoHour : Int32) (ns : Nat) (mfrom : Int32) (mto : Int32) (msort : Int32) (misFault : Int32) (mdeep : Int32) (mcoded : Int32) (mlines : Int32) (nl : Nat) (nc : Nat) (nF : Nat) (np : Nat) (ntr : Nat) (nb : Nat) (mbestCost : Int32) (nso : Nat) (nsi : Nat) (nit : Nat) (nsh : Nat) (nsf : Nat) (nss : Nat) (nrc : Nat) (jr : Nat) (jd : Nat) (mnumber : Int32) (mwhose : Int32) (msize : Int32) (misParted : Int32) (fnrc : Nat → Int32) : Prop := MI l G yX12_bodyFrom cX12_bodyFrom 5 (some .int) 16 0 0 [.ref h0, .int 0, .int 1, .int xx] [(h0, oX12 nw nk mhasKept nt mtaped nr mrowMany mroundOf mroundFrom mouts nm mfromHour mtoHour ns mfrom mto msort misFault mdeep mcoded mlines nl nc nF np ntr nb mbestCost nso nsi nit nsh nsf nss nrc (nI jr) (nI jd) mnumber mwhose msize misParted), (nrc, iA G 30 fnrc)] (fun (r : Int32) (u : Nat × Int32 × (Nat → Int32)) => (True) ∧ (u.1 ≤ 30)) (fun u : Nat × Int32 × (Nat → Int32) => [(h0, oX12 nw nk mhasKept nt mtaped nr mrowMany mroundOf mroundFrom mouts nm mfromHour mtoHour ns mfrom mto msort misFault mdeep mcoded mlines nl nc nF np ntr nb mbestCost nso nsi nit nsh nsf nss nrc (nI u.1) (nI jd) mnumber mwhose msize u.2.1), (nrc, iA G 30 u.2.2)])
set_option maxHeartbeats 4000000 in
set_option maxRecDepth 100000 in
theorem m_from01 (l : Launch) (G : GG) (h0 : Nat) (xx : Int32) (nw : Nat) (nk : Nat) (mhasKept : Int32) (nt : Nat) (mtaped : Int32) (nr : Nat) (mrowMany : Int32) (mroundOf : Int32) (mroundFrom : Int32) (mouts : Int32) (nm : Nat) (mfromHour : Int32) (mtoHour : Int32) (ns : Nat) (mfrom : Int32) (mto : Int32) (msort : Int32) (misFault : Int32) (mdeep : Int32) (mcoded : Int32) (mlines : Int32) (nl : Nat) (nc : Nat) (nF : Nat) (np : Nat) (ntr : Nat) (nb : Nat) (mbestCost : Int32) (nso : Nat) (nsi : Nat) (nit : Nat) (nsh : Nat) (nsf : Nat) (nss : Nat) (nrc : Nat) (jr : Nat) (jd : Nat) (mnumber : Int32) (mwhose : Int32) (msize : Int32) (misParted : Int32) (fnrc : Nat → Int32) (hjr : jr ≤ 30) (hjd : jd < 7) : K_m_from01 l G h0 xx nw nk mhasKept nt mtaped nr mrowMany mroundOf mroundFrom mouts nm mfromHour mtoHour ns mfrom mto msort misFault mdeep mcoded mlines nl nc nF np ntr nb mbestCost nso nsi nit nsh nsf nss nrc jr jd mnumber mwhose msize misParted fnrc := by
  refine MI.start (by decide +kernel) (Nat.le_of_ble_eq_true rfl) ?_
  intro p e s m below meth c A ls hC hK hP hD hS hA hl
  refine absQ (fun Q0 hQ0 => ?_)
  have hl : lv_has ls 5 [(0, .ref h0), (1, .int 0), (2, .int 1), (3, .int xx)] := hl
  refine Kan8 hC (fun hx hb hr hml hB hown hlocks hnm => ?_)
  refine lv_iload_n hx hb gX12_bodyFrom_0.1 rfl (lv_at1 hl) ?_
  refine lv_istore (lv' := [(4, .int 0), (0, .ref h0), (1, .int 0), (2, .int 1), (3, .int xx)]) hx hb gX12_bodyFrom_0.2.1 hl (by decide) rfl (fun ls hl => ?_)
  refine lv_iload hx hb gX12_bodyFrom_0.2.2.1 (lv_at0 hl) ?_
  refine lv_iload_n hx hb gX12_bodyFrom_0.2.2.2.1 rfl (lv_at3 hl) ?_
  refine pS hC hK hl (m_hasOwn01 l G) si_X12_360 rfl rfl (Nat.le_of_ble_eq_true rfl) rm_16_1_2 ⟨by first | exact Nat.le_of_ble_eq_true rfl | exact Nat.zero_le _, by first | exact Nat.le_of_ble_eq_true rfl | exact Nat.zero_le _⟩ gX12_bodyFrom_0.2.2.2.2.1 (Keqr ?_)
  refine lv_if_ne (tgt := 22) hx hb gX12_bodyFrom_0.2.2.2.2.2.1 (by decide) (fun _ => ?_) (fun c9 => absurd c9 (by decide))
  refine lv_aload_n hx hb gX12_bodyFrom_1.1 rfl (lv_at1 hl) ?_
  refine lv_iload hx hb gX12_bodyFrom_1.2.1 (lv_at0 hl) ?_
  refine lv_iload_n hx hb gX12_bodyFrom_1.2.2.1 rfl (lv_at3 hl) ?_
  refine lv_iload_n hx hb gX12_bodyFrom_1.2.2.2.1 rfl (lv_at4 hl) ?_
  refine iV (wr := []) hC hK hl hP hD hS hA (m_body01 l G h0 xx nw nk mhasKept nt mtaped nr mrowMany mroundOf mroundFrom mouts nm mfromHour mtoHour ns mfrom mto msort misFault mdeep mcoded mlines nl nc nF np ntr nb mbestCost nso nsi nit nsh nsf nss nrc jr jd mnumber mwhose msize misParted fnrc (hjr) (hjd)) si_X12_363 [0, 1] [] sm_0_1 fm_0_1 nd_0_1 rfl rfl (by decide) rfl rfl rfl rfl rfl (Nat.le_of_ble_eq_true rfl) rm_16_15_6 ⟨Nat.le_of_ble_eq_true rfl, Nat.le_of_ble_eq_true rfl⟩ gX12_bodyFrom_1.2.2.2.2.1 (fun r6192 => Ktu3 fun jr16194 ip16195 gtrc6196 => ?_)
  intro H locs hr6192 hP hD hS
  try dsimp only at hr6192
  refine Kpdr (ws := [(h0, oX12 nw nk mhasKept nt mtaped nr mrowMany mroundOf mroundFrom mouts nm mfromHour mtoHour ns mfrom mto msort misFault mdeep mcoded mlines nl nc nF np ntr nb mbestCost nso nsi nit nsh nsf nss nrc (nI jr16194) (nI jd) mnumber mwhose msize ip16195), (nrc, iA G 30 gtrc6196)]) hP hD (fun hP hD => ?_)
  obtain ⟨hr6192, w6197⟩ := hr6192
  refine toQ hQ0 ?_
  exact RI (v := r6192) hC hP hD hS [0, 1] (jr16194, ip16195, gtrc6196) rfl rfl (by decide) (⟨trivial, by omega⟩) rfl gX12_bodyFrom_1.2.2.2.2.2
def K_m_body11 (l : Launch) (G : GG) (h0 : Nat) (xx : Int32) (nw : Nat) (nk : Nat) (mhasKept : Int32) (nt : Nat) (mtaped : Int32) (nr : Nat) (mrowMany : Int32) (mroundOf : Int32) (mroundFrom : Int32) (mouts : Int32) (nm : Nat) (mfromHour : Int32) (mtoHour : Int32) (ns : Nat) (mfrom : Int32) (mto : Int32) (msort : Int32) (misFault : Int32) (mdeep : Int32) (mcoded : Int32) (mlines : Int32) (nl : Nat) (nc : Nat) (nF : Nat) (np : Nat) (ntr : Nat) (nb : Nat) (mbestCost : Int32) (nso : Nat) (nsi : Nat) (nit : Nat) (nsh : Nat) (nsf : Nat) (nss : Nat) (nrc : Nat) (jr : Nat) (jd : Nat) (mnumber : Int32) (mwhose : Int32) (msize : Int32) (misParted : Int32) (fnrc : Nat → Int32) : Prop := MI l G yX12_body cX12_body 6 (some .int) 17 0 0 [.ref h0, .int 1, .int 1, .int xx] [(h0, oX12 nw nk mhasKept nt mtaped nr mrowMany mroundOf mroundFrom mouts nm mfromHour mtoHour ns mfrom mto msort misFault mdeep mcoded mlines nl nc nF np ntr nb mbestCost nso nsi nit nsh nsf nss nrc (nI jr) (nI jd) mnumber mwhose msize misParted), (nrc, iA G 30 fnrc)] (fun (r : Int32) (u : Nat × Int32 × (Nat → Int32)) => (True) ∧ (u.1 ≤ 30)) (fun u : Nat × Int32 × (Nat → Int32) => [(h0, oX12 nw nk mhasKept nt mtaped nr mrowMany mroundOf mroundFrom mouts nm mfromHour mtoHour ns mfrom mto msort misFault mdeep mcoded mlines nl nc nF np ntr nb mbestCost nso nsi nit nsh nsf nss nrc (nI u.1) (nI jd) mnumber mwhose msize u.2.1), (nrc, iA G 30 u.2.2)])
set_option maxHeartbeats 4000000 in
set_option maxRecDepth 100000 in
theorem m_body11 (l : Launch) (G : GG) (h0 : Nat) (xx : Int32) (nw : Nat) (nk : Nat) (mhasKept : Int32) (nt : Nat) (mtaped : Int32) (nr : Nat) (mrowMany : Int32) (mroundOf : Int32) (mroundFrom : Int32) (mouts : Int32) (nm : Nat) (mfromHour : Int32) (mtoHour : Int32) (ns : Nat) (mfrom : Int32) (mto : Int32) (msort : Int32) (misFault : Int32) (mdeep : Int32) (mcoded : Int32) (mlines : Int32) (nl : Nat) (nc : Nat) (nF : Nat) (np : Nat) (ntr : Nat) (nb : Nat) (mbestCost : Int32) (nso : Nat) (nsi : Nat) (nit : Nat) (nsh : Nat) (nsf : Nat) (nss : Nat) (nrc : Nat) (jr : Nat) (jd : Nat) (mnumber : Int32) (mwhose : Int32) (msize : Int32) (misParted : Int32) (fnrc : Nat → Int32) (hjr : jr ≤ 30) (hjd : jd < 7) : K_m_body11 l G h0 xx nw nk mhasKept nt mtaped nr mrowMany mroundOf mroundFrom mouts nm mfromHour mtoHour ns mfrom mto msort misFault mdeep mcoded mlines nl nc nF np ntr nb mbestCost nso nsi nit nsh nsf nss nrc jr jd mnumber mwhose msize misParted fnrc := by
  refine MI.start (by decide +kernel) (Nat.le_of_ble_eq_true rfl) ?_
  intro p e s m below meth c A ls hC hK hP hD hS hA hl
  refine absQ (fun Q0 hQ0 => ?_)
  have hl : lv_has ls 6 [(0, .ref h0), (1, .int 1), (2, .int 1), (3, .int xx)] := hl
  refine Kan8 hC (fun hx hb hr hml hB hown hlocks hnm => ?_)
  refine lv_iconst (v := 4) hx hb gX12_body_0.1 (by decide) ?_
  refine lv_iload_n hx hb gX12_body_0.2.1 rfl (lv_at1 hl) ?_
  refine lv_imul hx hb gX12_body_0.2.2.1 ?_
  refine eqi (x1 := 4) (by decide) ?_
  refine lv_iload_n hx hb gX12_body_0.2.2.2.1 rfl (lv_at2 hl) ?_
  refine lv_iadd hx hb gX12_body_0.2.2.2.2.1 ?_
  refine eqi (x1 := 5) (by decide) ?_
  refine lv_tableIn (tgt := 207) hx hb gX12_body_0.2.2.2.2.2.1 (by decide) (by decide) rfl (by decide) ?_
  refine lv_aload_n hx hb gX12_body_6.2.1 rfl (lv_at0 hl) ?_
  refine lv_bipush (v := 20) hx hb gX12_body_6.2.2.1 (by decide) ?_
  refine vV (wr := []) hC hK hl hP hD hS hA (m_began l G h0 20 nw nk mhasKept nt mtaped nr mrowMany mroundOf mroundFrom mouts nm mfromHour mtoHour ns mfrom mto msort misFault mdeep mcoded mlines nl nc nF np ntr nb mbestCost nso nsi nit nsh nsf nss nrc jr (nI jd) mnumber mwhose msize misParted fnrc (hjr)) si_X12_366 [0, 1] [] sm_0_1 fm_0_1 nd_0_1 rfl rfl (by decide) rfl rfl rfl rfl rfl (Nat.le_of_ble_eq_true rfl) rm_17_1_2 ⟨Nat.le_of_ble_eq_true rfl, Nat.le_of_ble_eq_true rfl⟩ gX12_body_6.2.2.2.1 (Ktu2 fun jr16200 gtrc6201 => ?_)
  intro H locs hr6198 hP hD hS
  try dsimp only at hr6198
  refine Kpdr (ws := [(h0, oX12 nw nk mhasKept nt mtaped nr mrowMany mroundOf mroundFrom mouts nm mfromHour mtoHour ns mfrom mto msort misFault mdeep mcoded mlines nl nc nF np ntr nb mbestCost nso nsi nit nsh nsf nss nrc (nI jr16200) (nI jd) mnumber mwhose msize misParted), (nrc, iA G 30 gtrc6201)]) hP hD (fun hP hD => ?_)
  have w6202 := hr6198
  refine lv_aload_n hx hb gX12_body_6.2.2.2.2.1 rfl (lv_at0 hl) ?_
  refine lv_iconst (v := 0) hx hb gX12_body_6.2.2.2.2.2.1 (by decide) ?_
  refine lv_iconst (v := 1) hx hb gX12_body_6.2.2.2.2.2.2.1 (by decide) ?_
  refine lv_iload_n hx hb gX12_body_6.2.2.2.2.2.2.2.1 rfl (lv_at3 hl) ?_
  refine iV (wr := []) hC hK hl hP hD hS hA (m_from01 l G h0 xx nw nk mhasKept nt mtaped nr mrowMany mroundOf mroundFrom mouts nm mfromHour mtoHour ns mfrom mto msort misFault mdeep mcoded mlines nl nc nF np ntr nb mbestCost nso nsi nit nsh nsf nss nrc jr16200 jd mnumber mwhose msize misParted gtrc6201 (w6202) (hjd)) si_X12_357 [0, 1] [] sm_0_1 fm_0_1 nd_0_1 rfl rfl (by decide) rfl rfl rfl rfl rfl (Nat.le_of_ble_eq_true rfl) rm_17_16_5 ⟨Nat.le_of_ble_eq_true rfl, Nat.le_of_ble_eq_true rfl⟩ gX12_body_6.2.2.2.2.2.2.2.2.1 (fun r6203 => Ktu3 fun jr16205 ip16206 gtrc6207 => ?_)
  intro H locs hr6203 hP hD hS
  try dsimp only at hr6203
  refine Kpdr (ws := [(h0, oX12 nw nk mhasKept nt mtaped nr mrowMany mroundOf mroundFrom mouts nm mfromHour mtoHour ns mfrom mto msort misFault mdeep mcoded mlines nl nc nF np ntr nb mbestCost nso nsi nit nsh nsf nss nrc (nI jr16205) (nI jd) mnumber mwhose msize ip16206), (nrc, iA G 30 gtrc6207)]) hP hD (fun hP hD => ?_)
  obtain ⟨hr6203, w6208⟩ := hr6203
  refine lv_aload_n hx hb gX12_body_6.2.2.2.2.2.2.2.2.2 rfl (lv_at0 hl) ?_
  refine gf_X12_378 hC rfl hK hP 0 rfl rfl gX12_body_7.1 ?_
  refine lv_ixor hx hb gX12_body_7.2.1 ?_
  refine toQ hQ0 ?_
  exact RI (v := r6203 ^^^ mnumber) hC hP hD hS [0, 1] (jr16205, ip16206, gtrc6207) rfl rfl (by decide) (⟨trivial, by omega⟩) rfl gX12_body_7.2.2.1
def K_m_from11 (l : Launch) (G : GG) (h0 : Nat) (xx : Int32) (nw : Nat) (nk : Nat) (mhasKept : Int32) (nt : Nat) (mtaped : Int32) (nr : Nat) (mrowMany : Int32) (mroundOf : Int32) (mroundFrom : Int32) (mouts : Int32) (nm : Nat) (mfromHour : Int32) (mtoHour : Int32) (ns : Nat) (mfrom : Int32) (mto : Int32) (msort : Int32) (misFault : Int32) (mdeep : Int32) (mcoded : Int32) (mlines : Int32) (nl : Nat) (nc : Nat) (nF : Nat) (np : Nat) (ntr : Nat) (nb : Nat) (mbestCost : Int32) (nso : Nat) (nsi : Nat) (nit : Nat) (nsh : Nat) (nsf : Nat) (nss : Nat) (nrc : Nat) (jr : Nat) (jd : Nat) (mnumber : Int32) (mwhose : Int32) (msize : Int32) (misParted : Int32) (fnrc : Nat → Int32) : Prop := MI l G yX12_bodyFrom cX12_bodyFrom 5 (some .int) 18 0 0 [.ref h0, .int 1, .int 1, .int xx] [(h0, oX12 nw nk mhasKept nt mtaped nr mrowMany mroundOf mroundFrom mouts nm mfromHour mtoHour ns mfrom mto msort misFault mdeep mcoded mlines nl nc nF np ntr nb mbestCost nso nsi nit nsh nsf nss nrc (nI jr) (nI jd) mnumber mwhose msize misParted), (nrc, iA G 30 fnrc)] (fun (r : Int32) (u : Nat × Int32 × (Nat → Int32)) => (True) ∧ (u.1 ≤ 30)) (fun u : Nat × Int32 × (Nat → Int32) => [(h0, oX12 nw nk mhasKept nt mtaped nr mrowMany mroundOf mroundFrom mouts nm mfromHour mtoHour ns mfrom mto msort misFault mdeep mcoded mlines nl nc nF np ntr nb mbestCost nso nsi nit nsh nsf nss nrc (nI u.1) (nI jd) mnumber mwhose msize u.2.1), (nrc, iA G 30 u.2.2)])
set_option maxHeartbeats 4000000 in
set_option maxRecDepth 100000 in
theorem m_from11 (l : Launch) (G : GG) (h0 : Nat) (xx : Int32) (nw : Nat) (nk : Nat) (mhasKept : Int32) (nt : Nat) (mtaped : Int32) (nr : Nat) (mrowMany : Int32) (mroundOf : Int32) (mroundFrom : Int32) (mouts : Int32) (nm : Nat) (mfromHour : Int32) (mtoHour : Int32) (ns : Nat) (mfrom : Int32) (mto : Int32) (msort : Int32) (misFault : Int32) (mdeep : Int32) (mcoded : Int32) (mlines : Int32) (nl : Nat) (nc : Nat) (nF : Nat) (np : Nat) (ntr : Nat) (nb : Nat) (mbestCost : Int32) (nso : Nat) (nsi : Nat) (nit : Nat) (nsh : Nat) (nsf : Nat) (nss : Nat) (nrc : Nat) (jr : Nat) (jd : Nat) (mnumber : Int32) (mwhose : Int32) (msize : Int32) (misParted : Int32) (fnrc : Nat → Int32) (hjr : jr ≤ 30) (hjd : jd < 7) : K_m_from11 l G h0 xx nw nk mhasKept nt mtaped nr mrowMany mroundOf mroundFrom mouts nm mfromHour mtoHour ns mfrom mto msort misFault mdeep mcoded mlines nl nc nF np ntr nb mbestCost nso nsi nit nsh nsf nss nrc jr jd mnumber mwhose msize misParted fnrc := by
  refine MI.start (by decide +kernel) (Nat.le_of_ble_eq_true rfl) ?_
  intro p e s m below meth c A ls hC hK hP hD hS hA hl
  refine absQ (fun Q0 hQ0 => ?_)
  have hl : lv_has ls 5 [(0, .ref h0), (1, .int 1), (2, .int 1), (3, .int xx)] := hl
  refine Kan8 hC (fun hx hb hr hml hB hown hlocks hnm => ?_)
  refine lv_iload_n hx hb gX12_bodyFrom_0.1 rfl (lv_at1 hl) ?_
  refine lv_istore (lv' := [(4, .int 1), (0, .ref h0), (1, .int 1), (2, .int 1), (3, .int xx)]) hx hb gX12_bodyFrom_0.2.1 hl (by decide) rfl (fun ls hl => ?_)
  refine lv_iload hx hb gX12_bodyFrom_0.2.2.1 (lv_at0 hl) ?_
  refine lv_iload_n hx hb gX12_bodyFrom_0.2.2.2.1 rfl (lv_at3 hl) ?_
  refine pS hC hK hl (m_hasOwn11 l G) si_X12_360 rfl rfl (Nat.le_of_ble_eq_true rfl) rm_18_1_2 ⟨by first | exact Nat.le_of_ble_eq_true rfl | exact Nat.zero_le _, by first | exact Nat.le_of_ble_eq_true rfl | exact Nat.zero_le _⟩ gX12_bodyFrom_0.2.2.2.2.1 (Keqr ?_)
  refine lv_if_ne (tgt := 22) hx hb gX12_bodyFrom_0.2.2.2.2.2.1 (by decide) (fun _ => ?_) (fun c9 => absurd c9 (by decide))
  refine lv_aload_n hx hb gX12_bodyFrom_1.1 rfl (lv_at1 hl) ?_
  refine lv_iload hx hb gX12_bodyFrom_1.2.1 (lv_at0 hl) ?_
  refine lv_iload_n hx hb gX12_bodyFrom_1.2.2.1 rfl (lv_at3 hl) ?_
  refine lv_iload_n hx hb gX12_bodyFrom_1.2.2.2.1 rfl (lv_at4 hl) ?_
  refine iV (wr := []) hC hK hl hP hD hS hA (m_body11 l G h0 xx nw nk mhasKept nt mtaped nr mrowMany mroundOf mroundFrom mouts nm mfromHour mtoHour ns mfrom mto msort misFault mdeep mcoded mlines nl nc nF np ntr nb mbestCost nso nsi nit nsh nsf nss nrc jr jd mnumber mwhose msize misParted fnrc (hjr) (hjd)) si_X12_363 [0, 1] [] sm_0_1 fm_0_1 nd_0_1 rfl rfl (by decide) rfl rfl rfl rfl rfl (Nat.le_of_ble_eq_true rfl) rm_18_17_6 ⟨Nat.le_of_ble_eq_true rfl, Nat.le_of_ble_eq_true rfl⟩ gX12_bodyFrom_1.2.2.2.2.1 (fun r6211 => Ktu3 fun jr16213 ip16214 gtrc6215 => ?_)
  intro H locs hr6211 hP hD hS
  try dsimp only at hr6211
  refine Kpdr (ws := [(h0, oX12 nw nk mhasKept nt mtaped nr mrowMany mroundOf mroundFrom mouts nm mfromHour mtoHour ns mfrom mto msort misFault mdeep mcoded mlines nl nc nF np ntr nb mbestCost nso nsi nit nsh nsf nss nrc (nI jr16213) (nI jd) mnumber mwhose msize ip16214), (nrc, iA G 30 gtrc6215)]) hP hD (fun hP hD => ?_)
  obtain ⟨hr6211, w6216⟩ := hr6211
  refine toQ hQ0 ?_
  exact RI (v := r6211) hC hP hD hS [0, 1] (jr16213, ip16214, gtrc6215) rfl rfl (by decide) (⟨trivial, by omega⟩) rfl gX12_bodyFrom_1.2.2.2.2.2
def K_m_body31 (l : Launch) (G : GG) (h0 : Nat) (xx : Int32) (nw : Nat) (nk : Nat) (mhasKept : Int32) (nt : Nat) (mtaped : Int32) (nr : Nat) (mrowMany : Int32) (mroundOf : Int32) (mroundFrom : Int32) (mouts : Int32) (nm : Nat) (mfromHour : Int32) (mtoHour : Int32) (ns : Nat) (mfrom : Int32) (mto : Int32) (msort : Int32) (misFault : Int32) (mdeep : Int32) (mcoded : Int32) (mlines : Int32) (nl : Nat) (nc : Nat) (nF : Nat) (np : Nat) (ntr : Nat) (nb : Nat) (mbestCost : Int32) (nso : Nat) (nsi : Nat) (nit : Nat) (nsh : Nat) (nsf : Nat) (nss : Nat) (nrc : Nat) (jr : Nat) (jd : Nat) (mnumber : Int32) (mwhose : Int32) (msize : Int32) (misParted : Int32) (fnrc : Nat → Int32) : Prop := MI l G yX12_body cX12_body 6 (some .int) 19 0 0 [.ref h0, .int 3, .int 1, .int xx] [(h0, oX12 nw nk mhasKept nt mtaped nr mrowMany mroundOf mroundFrom mouts nm mfromHour mtoHour ns mfrom mto msort misFault mdeep mcoded mlines nl nc nF np ntr nb mbestCost nso nsi nit nsh nsf nss nrc (nI jr) (nI jd) mnumber mwhose msize misParted), (nrc, iA G 30 fnrc)] (fun (r : Int32) (u : Nat × Int32 × (Nat → Int32)) => (True) ∧ (u.1 ≤ 30)) (fun u : Nat × Int32 × (Nat → Int32) => [(h0, oX12 nw nk mhasKept nt mtaped nr mrowMany mroundOf mroundFrom mouts nm mfromHour mtoHour ns mfrom mto msort misFault mdeep mcoded mlines nl nc nF np ntr nb mbestCost nso nsi nit nsh nsf nss nrc (nI u.1) (nI jd) mnumber mwhose msize u.2.1), (nrc, iA G 30 u.2.2)])
set_option maxHeartbeats 4000000 in
set_option maxRecDepth 100000 in
theorem m_body31 (l : Launch) (G : GG) (h0 : Nat) (xx : Int32) (nw : Nat) (nk : Nat) (mhasKept : Int32) (nt : Nat) (mtaped : Int32) (nr : Nat) (mrowMany : Int32) (mroundOf : Int32) (mroundFrom : Int32) (mouts : Int32) (nm : Nat) (mfromHour : Int32) (mtoHour : Int32) (ns : Nat) (mfrom : Int32) (mto : Int32) (msort : Int32) (misFault : Int32) (mdeep : Int32) (mcoded : Int32) (mlines : Int32) (nl : Nat) (nc : Nat) (nF : Nat) (np : Nat) (ntr : Nat) (nb : Nat) (mbestCost : Int32) (nso : Nat) (nsi : Nat) (nit : Nat) (nsh : Nat) (nsf : Nat) (nss : Nat) (nrc : Nat) (jr : Nat) (jd : Nat) (mnumber : Int32) (mwhose : Int32) (msize : Int32) (misParted : Int32) (fnrc : Nat → Int32) (hjr : jr ≤ 30) (hjd : jd < 7) : K_m_body31 l G h0 xx nw nk mhasKept nt mtaped nr mrowMany mroundOf mroundFrom mouts nm mfromHour mtoHour ns mfrom mto msort misFault mdeep mcoded mlines nl nc nF np ntr nb mbestCost nso nsi nit nsh nsf nss nrc jr jd mnumber mwhose msize misParted fnrc := by
  refine MI.start (by decide +kernel) (Nat.le_of_ble_eq_true rfl) ?_
  intro p e s m below meth c A ls hC hK hP hD hS hA hl
  refine absQ (fun Q0 hQ0 => ?_)
  have hl : lv_has ls 6 [(0, .ref h0), (1, .int 3), (2, .int 1), (3, .int xx)] := hl
  refine Kan8 hC (fun hx hb hr hml hB hown hlocks hnm => ?_)
  refine lv_iconst (v := 4) hx hb gX12_body_0.1 (by decide) ?_
  refine lv_iload_n hx hb gX12_body_0.2.1 rfl (lv_at1 hl) ?_
  refine lv_imul hx hb gX12_body_0.2.2.1 ?_
  refine eqi (x1 := 12) (by decide) ?_
  refine lv_iload_n hx hb gX12_body_0.2.2.2.1 rfl (lv_at2 hl) ?_
  refine lv_iadd hx hb gX12_body_0.2.2.2.2.1 ?_
  refine eqi (x1 := 13) (by decide) ?_
  refine lv_tableIn (tgt := 242) hx hb gX12_body_0.2.2.2.2.2.1 (by decide) (by decide) rfl (by decide) ?_
  refine lv_aload_n hx hb gX12_body_8.2.2.2.2.1 rfl (lv_at0 hl) ?_
  refine lv_bipush (v := 40) hx hb gX12_body_8.2.2.2.2.2.1 (by decide) ?_
  refine vV (wr := []) hC hK hl hP hD hS hA (m_began l G h0 40 nw nk mhasKept nt mtaped nr mrowMany mroundOf mroundFrom mouts nm mfromHour mtoHour ns mfrom mto msort misFault mdeep mcoded mlines nl nc nF np ntr nb mbestCost nso nsi nit nsh nsf nss nrc jr (nI jd) mnumber mwhose msize misParted fnrc (hjr)) si_X12_366 [0, 1] [] sm_0_1 fm_0_1 nd_0_1 rfl rfl (by decide) rfl rfl rfl rfl rfl (Nat.le_of_ble_eq_true rfl) rm_19_1_2 ⟨Nat.le_of_ble_eq_true rfl, Nat.le_of_ble_eq_true rfl⟩ gX12_body_8.2.2.2.2.2.2.1 (Ktu2 fun jr16219 gtrc6220 => ?_)
  intro H locs hr6217 hP hD hS
  try dsimp only at hr6217
  refine Kpdr (ws := [(h0, oX12 nw nk mhasKept nt mtaped nr mrowMany mroundOf mroundFrom mouts nm mfromHour mtoHour ns mfrom mto msort misFault mdeep mcoded mlines nl nc nF np ntr nb mbestCost nso nsi nit nsh nsf nss nrc (nI jr16219) (nI jd) mnumber mwhose msize misParted), (nrc, iA G 30 gtrc6220)]) hP hD (fun hP hD => ?_)
  have w6221 := hr6217
  refine lv_iconst (v := 0) hx hb gX12_body_8.2.2.2.2.2.2.2.1 (by decide) ?_
  refine lv_aload_n hx hb gX12_body_8.2.2.2.2.2.2.2.2.1 rfl (lv_at0 hl) ?_
  refine lv_iconst (v := 1) hx hb gX12_body_8.2.2.2.2.2.2.2.2.2 (by decide) ?_
  refine lv_iconst (v := 1) hx hb gX12_body_9.1 (by decide) ?_
  refine lv_iload_n hx hb gX12_body_9.2.1 rfl (lv_at3 hl) ?_
  refine iV (wr := []) hC hK hl hP hD hS hA (m_from11 l G h0 xx nw nk mhasKept nt mtaped nr mrowMany mroundOf mroundFrom mouts nm mfromHour mtoHour ns mfrom mto msort misFault mdeep mcoded mlines nl nc nF np ntr nb mbestCost nso nsi nit nsh nsf nss nrc jr16219 jd mnumber mwhose msize misParted gtrc6220 (w6221) (hjd)) si_X12_357 [0, 1] [] sm_0_1 fm_0_1 nd_0_1 rfl rfl (by decide) rfl rfl rfl rfl rfl (Nat.le_of_ble_eq_true rfl) rm_19_18_5 ⟨Nat.le_of_ble_eq_true rfl, Nat.le_of_ble_eq_true rfl⟩ gX12_body_9.2.2.1 (fun r6222 => Ktu3 fun jr16224 ip16225 gtrc6226 => ?_)
  intro H locs hr6222 hP hD hS
  try dsimp only at hr6222
  refine Kpdr (ws := [(h0, oX12 nw nk mhasKept nt mtaped nr mrowMany mroundOf mroundFrom mouts nm mfromHour mtoHour ns mfrom mto msort misFault mdeep mcoded mlines nl nc nF np ntr nb mbestCost nso nsi nit nsh nsf nss nrc (nI jr16224) (nI jd) mnumber mwhose msize ip16225), (nrc, iA G 30 gtrc6226)]) hP hD (fun hP hD => ?_)
  obtain ⟨hr6222, w6227⟩ := hr6222
  refine lv_isub hx hb gX12_body_9.2.2.2.1 ?_
  refine toQ hQ0 ?_
  exact RI (v := 0 - r6222) hC hP hD hS [0, 1] (jr16224, ip16225, gtrc6226) rfl rfl (by decide) (⟨trivial, by omega⟩) rfl gX12_body_9.2.2.2.2.1
def K_m_from31 (l : Launch) (G : GG) (h0 : Nat) (xx : Int32) (nw : Nat) (nk : Nat) (mhasKept : Int32) (nt : Nat) (mtaped : Int32) (nr : Nat) (mrowMany : Int32) (mroundOf : Int32) (mroundFrom : Int32) (mouts : Int32) (nm : Nat) (mfromHour : Int32) (mtoHour : Int32) (ns : Nat) (mfrom : Int32) (mto : Int32) (msort : Int32) (misFault : Int32) (mdeep : Int32) (mcoded : Int32) (mlines : Int32) (nl : Nat) (nc : Nat) (nF : Nat) (np : Nat) (ntr : Nat) (nb : Nat) (mbestCost : Int32) (nso : Nat) (nsi : Nat) (nit : Nat) (nsh : Nat) (nsf : Nat) (nss : Nat) (nrc : Nat) (jr : Nat) (jd : Nat) (mnumber : Int32) (mwhose : Int32) (msize : Int32) (misParted : Int32) (fnrc : Nat → Int32) : Prop := MI l G yX12_bodyFrom cX12_bodyFrom 5 (some .int) 20 0 0 [.ref h0, .int 3, .int 1, .int xx] [(h0, oX12 nw nk mhasKept nt mtaped nr mrowMany mroundOf mroundFrom mouts nm mfromHour mtoHour ns mfrom mto msort misFault mdeep mcoded mlines nl nc nF np ntr nb mbestCost nso nsi nit nsh nsf nss nrc (nI jr) (nI jd) mnumber mwhose msize misParted), (nrc, iA G 30 fnrc)] (fun (r : Int32) (u : Nat × Int32 × (Nat → Int32)) => (True) ∧ (u.1 ≤ 30)) (fun u : Nat × Int32 × (Nat → Int32) => [(h0, oX12 nw nk mhasKept nt mtaped nr mrowMany mroundOf mroundFrom mouts nm mfromHour mtoHour ns mfrom mto msort misFault mdeep mcoded mlines nl nc nF np ntr nb mbestCost nso nsi nit nsh nsf nss nrc (nI u.1) (nI jd) mnumber mwhose msize u.2.1), (nrc, iA G 30 u.2.2)])
set_option maxHeartbeats 4000000 in
set_option maxRecDepth 100000 in
theorem m_from31 (l : Launch) (G : GG) (h0 : Nat) (xx : Int32) (nw : Nat) (nk : Nat) (mhasKept : Int32) (nt : Nat) (mtaped : Int32) (nr : Nat) (mrowMany : Int32) (mroundOf : Int32) (mroundFrom : Int32) (mouts : Int32) (nm : Nat) (mfromHour : Int32) (mtoHour : Int32) (ns : Nat) (mfrom : Int32) (mto : Int32) (msort : Int32) (misFault : Int32) (mdeep : Int32) (mcoded : Int32) (mlines : Int32) (nl : Nat) (nc : Nat) (nF : Nat) (np : Nat) (ntr : Nat) (nb : Nat) (mbestCost : Int32) (nso : Nat) (nsi : Nat) (nit : Nat) (nsh : Nat) (nsf : Nat) (nss : Nat) (nrc : Nat) (jr : Nat) (jd : Nat) (mnumber : Int32) (mwhose : Int32) (msize : Int32) (misParted : Int32) (fnrc : Nat → Int32) (hjr : jr ≤ 30) (hjd : jd < 7) : K_m_from31 l G h0 xx nw nk mhasKept nt mtaped nr mrowMany mroundOf mroundFrom mouts nm mfromHour mtoHour ns mfrom mto msort misFault mdeep mcoded mlines nl nc nF np ntr nb mbestCost nso nsi nit nsh nsf nss nrc jr jd mnumber mwhose msize misParted fnrc := by
  refine MI.start (by decide +kernel) (Nat.le_of_ble_eq_true rfl) ?_
  intro p e s m below meth c A ls hC hK hP hD hS hA hl
  refine absQ (fun Q0 hQ0 => ?_)
  have hl : lv_has ls 5 [(0, .ref h0), (1, .int 3), (2, .int 1), (3, .int xx)] := hl
  refine Kan8 hC (fun hx hb hr hml hB hown hlocks hnm => ?_)
  refine lv_iload_n hx hb gX12_bodyFrom_0.1 rfl (lv_at1 hl) ?_
  refine lv_istore (lv' := [(4, .int 3), (0, .ref h0), (1, .int 3), (2, .int 1), (3, .int xx)]) hx hb gX12_bodyFrom_0.2.1 hl (by decide) rfl (fun ls hl => ?_)
  refine lv_iload hx hb gX12_bodyFrom_0.2.2.1 (lv_at0 hl) ?_
  refine lv_iload_n hx hb gX12_bodyFrom_0.2.2.2.1 rfl (lv_at3 hl) ?_
  refine pS hC hK hl (m_hasOwn31 l G) si_X12_360 rfl rfl (Nat.le_of_ble_eq_true rfl) rm_20_1_2 ⟨by first | exact Nat.le_of_ble_eq_true rfl | exact Nat.zero_le _, by first | exact Nat.le_of_ble_eq_true rfl | exact Nat.zero_le _⟩ gX12_bodyFrom_0.2.2.2.2.1 (Keqr ?_)
  refine lv_if_ne (tgt := 22) hx hb gX12_bodyFrom_0.2.2.2.2.2.1 (by decide) (fun _ => ?_) (fun c9 => absurd c9 (by decide))
  refine lv_aload_n hx hb gX12_bodyFrom_1.1 rfl (lv_at1 hl) ?_
  refine lv_iload hx hb gX12_bodyFrom_1.2.1 (lv_at0 hl) ?_
  refine lv_iload_n hx hb gX12_bodyFrom_1.2.2.1 rfl (lv_at3 hl) ?_
  refine lv_iload_n hx hb gX12_bodyFrom_1.2.2.2.1 rfl (lv_at4 hl) ?_
  refine iV (wr := []) hC hK hl hP hD hS hA (m_body31 l G h0 xx nw nk mhasKept nt mtaped nr mrowMany mroundOf mroundFrom mouts nm mfromHour mtoHour ns mfrom mto msort misFault mdeep mcoded mlines nl nc nF np ntr nb mbestCost nso nsi nit nsh nsf nss nrc jr jd mnumber mwhose msize misParted fnrc (hjr) (hjd)) si_X12_363 [0, 1] [] sm_0_1 fm_0_1 nd_0_1 rfl rfl (by decide) rfl rfl rfl rfl rfl (Nat.le_of_ble_eq_true rfl) rm_20_19_6 ⟨Nat.le_of_ble_eq_true rfl, Nat.le_of_ble_eq_true rfl⟩ gX12_bodyFrom_1.2.2.2.2.1 (fun r6230 => Ktu3 fun jr16232 ip16233 gtrc6234 => ?_)
  intro H locs hr6230 hP hD hS
  try dsimp only at hr6230
  refine Kpdr (ws := [(h0, oX12 nw nk mhasKept nt mtaped nr mrowMany mroundOf mroundFrom mouts nm mfromHour mtoHour ns mfrom mto msort misFault mdeep mcoded mlines nl nc nF np ntr nb mbestCost nso nsi nit nsh nsf nss nrc (nI jr16232) (nI jd) mnumber mwhose msize ip16233), (nrc, iA G 30 gtrc6234)]) hP hD (fun hP hD => ?_)
  obtain ⟨hr6230, w6235⟩ := hr6230
  refine toQ hQ0 ?_
  exact RI (v := r6230) hC hP hD hS [0, 1] (jr16232, ip16233, gtrc6234) rfl rfl (by decide) (⟨trivial, by omega⟩) rfl gX12_bodyFrom_1.2.2.2.2.2
def K_m_from21 (l : Launch) (G : GG) (h0 : Nat) (xx : Int32) (nw : Nat) (nk : Nat) (mhasKept : Int32) (nt : Nat) (mtaped : Int32) (nr : Nat) (mrowMany : Int32) (mroundOf : Int32) (mroundFrom : Int32) (mouts : Int32) (nm : Nat) (mfromHour : Int32) (mtoHour : Int32) (ns : Nat) (mfrom : Int32) (mto : Int32) (msort : Int32) (misFault : Int32) (mdeep : Int32) (mcoded : Int32) (mlines : Int32) (nl : Nat) (nc : Nat) (nF : Nat) (np : Nat) (ntr : Nat) (nb : Nat) (mbestCost : Int32) (nso : Nat) (nsi : Nat) (nit : Nat) (nsh : Nat) (nsf : Nat) (nss : Nat) (nrc : Nat) (jr : Nat) (jd : Nat) (mnumber : Int32) (mwhose : Int32) (msize : Int32) (misParted : Int32) (fnrc : Nat → Int32) : Prop := MI l G yX12_bodyFrom cX12_bodyFrom 5 (some .int) 24 0 0 [.ref h0, .int 2, .int 1, .int xx] [(h0, oX12 nw nk mhasKept nt mtaped nr mrowMany mroundOf mroundFrom mouts nm mfromHour mtoHour ns mfrom mto msort misFault mdeep mcoded mlines nl nc nF np ntr nb mbestCost nso nsi nit nsh nsf nss nrc (nI jr) (nI jd) mnumber mwhose msize misParted), (nrc, iA G 30 fnrc)] (fun (r : Int32) (u : Nat × Int32 × (Nat → Int32)) => (True) ∧ (u.1 ≤ 30)) (fun u : Nat × Int32 × (Nat → Int32) => [(h0, oX12 nw nk mhasKept nt mtaped nr mrowMany mroundOf mroundFrom mouts nm mfromHour mtoHour ns mfrom mto msort misFault mdeep mcoded mlines nl nc nF np ntr nb mbestCost nso nsi nit nsh nsf nss nrc (nI u.1) (nI jd) mnumber mwhose msize u.2.1), (nrc, iA G 30 u.2.2)])
set_option maxHeartbeats 4000000 in
set_option maxRecDepth 100000 in
theorem m_from21 (l : Launch) (G : GG) (h0 : Nat) (xx : Int32) (nw : Nat) (nk : Nat) (mhasKept : Int32) (nt : Nat) (mtaped : Int32) (nr : Nat) (mrowMany : Int32) (mroundOf : Int32) (mroundFrom : Int32) (mouts : Int32) (nm : Nat) (mfromHour : Int32) (mtoHour : Int32) (ns : Nat) (mfrom : Int32) (mto : Int32) (msort : Int32) (misFault : Int32) (mdeep : Int32) (mcoded : Int32) (mlines : Int32) (nl : Nat) (nc : Nat) (nF : Nat) (np : Nat) (ntr : Nat) (nb : Nat) (mbestCost : Int32) (nso : Nat) (nsi : Nat) (nit : Nat) (nsh : Nat) (nsf : Nat) (nss : Nat) (nrc : Nat) (jr : Nat) (jd : Nat) (mnumber : Int32) (mwhose : Int32) (msize : Int32) (misParted : Int32) (fnrc : Nat → Int32) (hjr : jr ≤ 30) (hjd : jd < 7) : K_m_from21 l G h0 xx nw nk mhasKept nt mtaped nr mrowMany mroundOf mroundFrom mouts nm mfromHour mtoHour ns mfrom mto msort misFault mdeep mcoded mlines nl nc nF np ntr nb mbestCost nso nsi nit nsh nsf nss nrc jr jd mnumber mwhose msize misParted fnrc := by
  refine MI.start (by decide +kernel) (Nat.le_of_ble_eq_true rfl) ?_
  intro p e s m below meth c A ls hC hK hP hD hS hA hl
  refine absQ (fun Q0 hQ0 => ?_)
  have hl : lv_has ls 5 [(0, .ref h0), (1, .int 2), (2, .int 1), (3, .int xx)] := hl
  refine Kan8 hC (fun hx hb hr hml hB hown hlocks hnm => ?_)
  refine lv_iload_n hx hb gX12_bodyFrom_0.1 rfl (lv_at1 hl) ?_
  refine lv_istore (lv' := [(4, .int 2), (0, .ref h0), (1, .int 2), (2, .int 1), (3, .int xx)]) hx hb gX12_bodyFrom_0.2.1 hl (by decide) rfl (fun ls hl => ?_)
  refine lv_iload hx hb gX12_bodyFrom_0.2.2.1 (lv_at0 hl) ?_
  refine lv_iload_n hx hb gX12_bodyFrom_0.2.2.2.1 rfl (lv_at3 hl) ?_
  refine pS hC hK hl (m_hasOwn21 l G) si_X12_360 rfl rfl (Nat.le_of_ble_eq_true rfl) rm_24_1_2 ⟨by first | exact Nat.le_of_ble_eq_true rfl | exact Nat.zero_le _, by first | exact Nat.le_of_ble_eq_true rfl | exact Nat.zero_le _⟩ gX12_bodyFrom_0.2.2.2.2.1 (Keqr ?_)
  refine lv_if_ne (tgt := 22) hx hb gX12_bodyFrom_0.2.2.2.2.2.1 (by decide) (fun c9 => absurd (by decide) c9) (fun _ => ?_)
  refine lv_iload hx hb gX12_bodyFrom_0.2.2.2.2.2.2.1 (lv_at0 hl) ?_
  refine pS hC hK hl (m_above2 l G) si_X12_348 rfl rfl (Nat.le_of_ble_eq_true rfl) rm_24_1_1 ⟨by first | exact Nat.le_of_ble_eq_true rfl | exact Nat.zero_le _, by first | exact Nat.le_of_ble_eq_true rfl | exact Nat.zero_le _⟩ gX12_bodyFrom_0.2.2.2.2.2.2.2.1 (Keqr ?_)
  refine lv_istore (lv' := [(4, .int 0), (0, .ref h0), (1, .int 2), (2, .int 1), (3, .int xx)]) hx hb gX12_bodyFrom_0.2.2.2.2.2.2.2.2.1 hl (by decide) rfl (fun ls hl => ?_)
  refine lv_goto (tgt := 3) hx hb gX12_bodyFrom_0.2.2.2.2.2.2.2.2.2 (by decide) ?_
  refine lv_iload hx hb gX12_bodyFrom_0.2.2.1 (lv_at0 hl) ?_
  refine lv_iload_n hx hb gX12_bodyFrom_0.2.2.2.1 rfl (lv_at3 hl) ?_
  refine pS hC hK hl (m_hasOwn01 l G) si_X12_360 rfl rfl (Nat.le_of_ble_eq_true rfl) rm_24_1_2 ⟨by first | exact Nat.le_of_ble_eq_true rfl | exact Nat.zero_le _, by first | exact Nat.le_of_ble_eq_true rfl | exact Nat.zero_le _⟩ gX12_bodyFrom_0.2.2.2.2.1 (Keqr ?_)
  refine lv_if_ne (tgt := 22) hx hb gX12_bodyFrom_0.2.2.2.2.2.1 (by decide) (fun _ => ?_) (fun c9 => absurd c9 (by decide))
  refine lv_aload_n hx hb gX12_bodyFrom_1.1 rfl (lv_at1 hl) ?_
  refine lv_iload hx hb gX12_bodyFrom_1.2.1 (lv_at0 hl) ?_
  refine lv_iload_n hx hb gX12_bodyFrom_1.2.2.1 rfl (lv_at3 hl) ?_
  refine lv_iload_n hx hb gX12_bodyFrom_1.2.2.2.1 rfl (lv_at4 hl) ?_
  refine iV (wr := []) hC hK hl hP hD hS hA (m_body01 l G h0 xx nw nk mhasKept nt mtaped nr mrowMany mroundOf mroundFrom mouts nm mfromHour mtoHour ns mfrom mto msort misFault mdeep mcoded mlines nl nc nF np ntr nb mbestCost nso nsi nit nsh nsf nss nrc jr jd mnumber mwhose msize misParted fnrc (hjr) (hjd)) si_X12_363 [0, 1] [] sm_0_1 fm_0_1 nd_0_1 rfl rfl (by decide) rfl rfl rfl rfl rfl (Nat.le_of_ble_eq_true rfl) rm_24_15_6 ⟨Nat.le_of_ble_eq_true rfl, Nat.le_of_ble_eq_true rfl⟩ gX12_bodyFrom_1.2.2.2.2.1 (fun r6242 => Ktu3 fun jr16244 ip16245 gtrc6246 => ?_)
  intro H locs hr6242 hP hD hS
  try dsimp only at hr6242
  refine Kpdr (ws := [(h0, oX12 nw nk mhasKept nt mtaped nr mrowMany mroundOf mroundFrom mouts nm mfromHour mtoHour ns mfrom mto msort misFault mdeep mcoded mlines nl nc nF np ntr nb mbestCost nso nsi nit nsh nsf nss nrc (nI jr16244) (nI jd) mnumber mwhose msize ip16245), (nrc, iA G 30 gtrc6246)]) hP hD (fun hP hD => ?_)
  obtain ⟨hr6242, w6247⟩ := hr6242
  refine toQ hQ0 ?_
  exact RI (v := r6242) hC hP hD hS [0, 1] (jr16244, ip16245, gtrc6246) rfl rfl (by decide) (⟨trivial, by omega⟩) rfl gX12_bodyFrom_1.2.2.2.2.2
def K_m_from41 (l : Launch) (G : GG) (h0 : Nat) (xx : Int32) (nw : Nat) (nk : Nat) (mhasKept : Int32) (nt : Nat) (mtaped : Int32) (nr : Nat) (mrowMany : Int32) (mroundOf : Int32) (mroundFrom : Int32) (mouts : Int32) (nm : Nat) (mfromHour : Int32) (mtoHour : Int32) (ns : Nat) (mfrom : Int32) (mto : Int32) (msort : Int32) (misFault : Int32) (mdeep : Int32) (mcoded : Int32) (mlines : Int32) (nl : Nat) (nc : Nat) (nF : Nat) (np : Nat) (ntr : Nat) (nb : Nat) (mbestCost : Int32) (nso : Nat) (nsi : Nat) (nit : Nat) (nsh : Nat) (nsf : Nat) (nss : Nat) (nrc : Nat) (jr : Nat) (jd : Nat) (mnumber : Int32) (mwhose : Int32) (msize : Int32) (misParted : Int32) (fnrc : Nat → Int32) : Prop := MI l G yX12_bodyFrom cX12_bodyFrom 5 (some .int) 24 0 0 [.ref h0, .int 4, .int 1, .int xx] [(h0, oX12 nw nk mhasKept nt mtaped nr mrowMany mroundOf mroundFrom mouts nm mfromHour mtoHour ns mfrom mto msort misFault mdeep mcoded mlines nl nc nF np ntr nb mbestCost nso nsi nit nsh nsf nss nrc (nI jr) (nI jd) mnumber mwhose msize misParted), (nrc, iA G 30 fnrc)] (fun (r : Int32) (u : Nat × Int32 × (Nat → Int32)) => (True) ∧ (u.1 ≤ 30)) (fun u : Nat × Int32 × (Nat → Int32) => [(h0, oX12 nw nk mhasKept nt mtaped nr mrowMany mroundOf mroundFrom mouts nm mfromHour mtoHour ns mfrom mto msort misFault mdeep mcoded mlines nl nc nF np ntr nb mbestCost nso nsi nit nsh nsf nss nrc (nI u.1) (nI jd) mnumber mwhose msize u.2.1), (nrc, iA G 30 u.2.2)])
set_option maxHeartbeats 4000000 in
set_option maxRecDepth 100000 in
theorem m_from41 (l : Launch) (G : GG) (h0 : Nat) (xx : Int32) (nw : Nat) (nk : Nat) (mhasKept : Int32) (nt : Nat) (mtaped : Int32) (nr : Nat) (mrowMany : Int32) (mroundOf : Int32) (mroundFrom : Int32) (mouts : Int32) (nm : Nat) (mfromHour : Int32) (mtoHour : Int32) (ns : Nat) (mfrom : Int32) (mto : Int32) (msort : Int32) (misFault : Int32) (mdeep : Int32) (mcoded : Int32) (mlines : Int32) (nl : Nat) (nc : Nat) (nF : Nat) (np : Nat) (ntr : Nat) (nb : Nat) (mbestCost : Int32) (nso : Nat) (nsi : Nat) (nit : Nat) (nsh : Nat) (nsf : Nat) (nss : Nat) (nrc : Nat) (jr : Nat) (jd : Nat) (mnumber : Int32) (mwhose : Int32) (msize : Int32) (misParted : Int32) (fnrc : Nat → Int32) (hjr : jr ≤ 30) (hjd : jd < 7) : K_m_from41 l G h0 xx nw nk mhasKept nt mtaped nr mrowMany mroundOf mroundFrom mouts nm mfromHour mtoHour ns mfrom mto msort misFault mdeep mcoded mlines nl nc nF np ntr nb mbestCost nso nsi nit nsh nsf nss nrc jr jd mnumber mwhose msize misParted fnrc := by
  refine MI.start (by decide +kernel) (Nat.le_of_ble_eq_true rfl) ?_
  intro p e s m below meth c A ls hC hK hP hD hS hA hl
  refine absQ (fun Q0 hQ0 => ?_)
  have hl : lv_has ls 5 [(0, .ref h0), (1, .int 4), (2, .int 1), (3, .int xx)] := hl
  refine Kan8 hC (fun hx hb hr hml hB hown hlocks hnm => ?_)
  refine lv_iload_n hx hb gX12_bodyFrom_0.1 rfl (lv_at1 hl) ?_
  refine lv_istore (lv' := [(4, .int 4), (0, .ref h0), (1, .int 4), (2, .int 1), (3, .int xx)]) hx hb gX12_bodyFrom_0.2.1 hl (by decide) rfl (fun ls hl => ?_)
  refine lv_iload hx hb gX12_bodyFrom_0.2.2.1 (lv_at0 hl) ?_
  refine lv_iload_n hx hb gX12_bodyFrom_0.2.2.2.1 rfl (lv_at3 hl) ?_
  refine pS hC hK hl (m_hasOwn41 l G) si_X12_360 rfl rfl (Nat.le_of_ble_eq_true rfl) rm_24_1_2 ⟨by first | exact Nat.le_of_ble_eq_true rfl | exact Nat.zero_le _, by first | exact Nat.le_of_ble_eq_true rfl | exact Nat.zero_le _⟩ gX12_bodyFrom_0.2.2.2.2.1 (Keqr ?_)
  refine lv_if_ne (tgt := 22) hx hb gX12_bodyFrom_0.2.2.2.2.2.1 (by decide) (fun c9 => absurd (by decide) c9) (fun _ => ?_)
  refine lv_iload hx hb gX12_bodyFrom_0.2.2.2.2.2.2.1 (lv_at0 hl) ?_
  refine pS hC hK hl (m_above4 l G) si_X12_348 rfl rfl (Nat.le_of_ble_eq_true rfl) rm_24_1_1 ⟨by first | exact Nat.le_of_ble_eq_true rfl | exact Nat.zero_le _, by first | exact Nat.le_of_ble_eq_true rfl | exact Nat.zero_le _⟩ gX12_bodyFrom_0.2.2.2.2.2.2.2.1 (Keqr ?_)
  refine lv_istore (lv' := [(4, .int 0), (0, .ref h0), (1, .int 4), (2, .int 1), (3, .int xx)]) hx hb gX12_bodyFrom_0.2.2.2.2.2.2.2.2.1 hl (by decide) rfl (fun ls hl => ?_)
  refine lv_goto (tgt := 3) hx hb gX12_bodyFrom_0.2.2.2.2.2.2.2.2.2 (by decide) ?_
  refine lv_iload hx hb gX12_bodyFrom_0.2.2.1 (lv_at0 hl) ?_
  refine lv_iload_n hx hb gX12_bodyFrom_0.2.2.2.1 rfl (lv_at3 hl) ?_
  refine pS hC hK hl (m_hasOwn01 l G) si_X12_360 rfl rfl (Nat.le_of_ble_eq_true rfl) rm_24_1_2 ⟨by first | exact Nat.le_of_ble_eq_true rfl | exact Nat.zero_le _, by first | exact Nat.le_of_ble_eq_true rfl | exact Nat.zero_le _⟩ gX12_bodyFrom_0.2.2.2.2.1 (Keqr ?_)
  refine lv_if_ne (tgt := 22) hx hb gX12_bodyFrom_0.2.2.2.2.2.1 (by decide) (fun _ => ?_) (fun c9 => absurd c9 (by decide))
  refine lv_aload_n hx hb gX12_bodyFrom_1.1 rfl (lv_at1 hl) ?_
  refine lv_iload hx hb gX12_bodyFrom_1.2.1 (lv_at0 hl) ?_
  refine lv_iload_n hx hb gX12_bodyFrom_1.2.2.1 rfl (lv_at3 hl) ?_
  refine lv_iload_n hx hb gX12_bodyFrom_1.2.2.2.1 rfl (lv_at4 hl) ?_
  refine iV (wr := []) hC hK hl hP hD hS hA (m_body01 l G h0 xx nw nk mhasKept nt mtaped nr mrowMany mroundOf mroundFrom mouts nm mfromHour mtoHour ns mfrom mto msort misFault mdeep mcoded mlines nl nc nF np ntr nb mbestCost nso nsi nit nsh nsf nss nrc jr jd mnumber mwhose msize misParted fnrc (hjr) (hjd)) si_X12_363 [0, 1] [] sm_0_1 fm_0_1 nd_0_1 rfl rfl (by decide) rfl rfl rfl rfl rfl (Nat.le_of_ble_eq_true rfl) rm_24_15_6 ⟨Nat.le_of_ble_eq_true rfl, Nat.le_of_ble_eq_true rfl⟩ gX12_bodyFrom_1.2.2.2.2.1 (fun r6254 => Ktu3 fun jr16256 ip16257 gtrc6258 => ?_)
  intro H locs hr6254 hP hD hS
  try dsimp only at hr6254
  refine Kpdr (ws := [(h0, oX12 nw nk mhasKept nt mtaped nr mrowMany mroundOf mroundFrom mouts nm mfromHour mtoHour ns mfrom mto msort misFault mdeep mcoded mlines nl nc nF np ntr nb mbestCost nso nsi nit nsh nsf nss nrc (nI jr16256) (nI jd) mnumber mwhose msize ip16257), (nrc, iA G 30 gtrc6258)]) hP hD (fun hP hD => ?_)
  obtain ⟨hr6254, w6259⟩ := hr6254
  refine toQ hQ0 ?_
  exact RI (v := r6254) hC hP hD hS [0, 1] (jr16256, ip16257, gtrc6258) rfl rfl (by decide) (⟨trivial, by omega⟩) rfl gX12_bodyFrom_1.2.2.2.2.2
def K_m_from51 (l : Launch) (G : GG) (h0 : Nat) (xx : Int32) (nw : Nat) (nk : Nat) (mhasKept : Int32) (nt : Nat) (mtaped : Int32) (nr : Nat) (mrowMany : Int32) (mroundOf : Int32) (mroundFrom : Int32) (mouts : Int32) (nm : Nat) (mfromHour : Int32) (mtoHour : Int32) (ns : Nat) (mfrom : Int32) (mto : Int32) (msort : Int32) (misFault : Int32) (mdeep : Int32) (mcoded : Int32) (mlines : Int32) (nl : Nat) (nc : Nat) (nF : Nat) (np : Nat) (ntr : Nat) (nb : Nat) (mbestCost : Int32) (nso : Nat) (nsi : Nat) (nit : Nat) (nsh : Nat) (nsf : Nat) (nss : Nat) (nrc : Nat) (jr : Nat) (jd : Nat) (mnumber : Int32) (mwhose : Int32) (msize : Int32) (misParted : Int32) (fnrc : Nat → Int32) : Prop := MI l G yX12_bodyFrom cX12_bodyFrom 5 (some .int) 24 0 0 [.ref h0, .int 5, .int 1, .int xx] [(h0, oX12 nw nk mhasKept nt mtaped nr mrowMany mroundOf mroundFrom mouts nm mfromHour mtoHour ns mfrom mto msort misFault mdeep mcoded mlines nl nc nF np ntr nb mbestCost nso nsi nit nsh nsf nss nrc (nI jr) (nI jd) mnumber mwhose msize misParted), (nrc, iA G 30 fnrc)] (fun (r : Int32) (u : Nat × Int32 × (Nat → Int32)) => (True) ∧ (u.1 ≤ 30)) (fun u : Nat × Int32 × (Nat → Int32) => [(h0, oX12 nw nk mhasKept nt mtaped nr mrowMany mroundOf mroundFrom mouts nm mfromHour mtoHour ns mfrom mto msort misFault mdeep mcoded mlines nl nc nF np ntr nb mbestCost nso nsi nit nsh nsf nss nrc (nI u.1) (nI jd) mnumber mwhose msize u.2.1), (nrc, iA G 30 u.2.2)])
set_option maxHeartbeats 4000000 in
set_option maxRecDepth 100000 in
theorem m_from51 (l : Launch) (G : GG) (h0 : Nat) (xx : Int32) (nw : Nat) (nk : Nat) (mhasKept : Int32) (nt : Nat) (mtaped : Int32) (nr : Nat) (mrowMany : Int32) (mroundOf : Int32) (mroundFrom : Int32) (mouts : Int32) (nm : Nat) (mfromHour : Int32) (mtoHour : Int32) (ns : Nat) (mfrom : Int32) (mto : Int32) (msort : Int32) (misFault : Int32) (mdeep : Int32) (mcoded : Int32) (mlines : Int32) (nl : Nat) (nc : Nat) (nF : Nat) (np : Nat) (ntr : Nat) (nb : Nat) (mbestCost : Int32) (nso : Nat) (nsi : Nat) (nit : Nat) (nsh : Nat) (nsf : Nat) (nss : Nat) (nrc : Nat) (jr : Nat) (jd : Nat) (mnumber : Int32) (mwhose : Int32) (msize : Int32) (misParted : Int32) (fnrc : Nat → Int32) (hjr : jr ≤ 30) (hjd : jd < 7) : K_m_from51 l G h0 xx nw nk mhasKept nt mtaped nr mrowMany mroundOf mroundFrom mouts nm mfromHour mtoHour ns mfrom mto msort misFault mdeep mcoded mlines nl nc nF np ntr nb mbestCost nso nsi nit nsh nsf nss nrc jr jd mnumber mwhose msize misParted fnrc := by
  refine MI.start (by decide +kernel) (Nat.le_of_ble_eq_true rfl) ?_
  intro p e s m below meth c A ls hC hK hP hD hS hA hl
  refine absQ (fun Q0 hQ0 => ?_)
  have hl : lv_has ls 5 [(0, .ref h0), (1, .int 5), (2, .int 1), (3, .int xx)] := hl
  refine Kan8 hC (fun hx hb hr hml hB hown hlocks hnm => ?_)
  refine lv_iload_n hx hb gX12_bodyFrom_0.1 rfl (lv_at1 hl) ?_
  refine lv_istore (lv' := [(4, .int 5), (0, .ref h0), (1, .int 5), (2, .int 1), (3, .int xx)]) hx hb gX12_bodyFrom_0.2.1 hl (by decide) rfl (fun ls hl => ?_)
  refine lv_iload hx hb gX12_bodyFrom_0.2.2.1 (lv_at0 hl) ?_
  refine lv_iload_n hx hb gX12_bodyFrom_0.2.2.2.1 rfl (lv_at3 hl) ?_
  refine pS hC hK hl (m_hasOwn51 l G) si_X12_360 rfl rfl (Nat.le_of_ble_eq_true rfl) rm_24_1_2 ⟨by first | exact Nat.le_of_ble_eq_true rfl | exact Nat.zero_le _, by first | exact Nat.le_of_ble_eq_true rfl | exact Nat.zero_le _⟩ gX12_bodyFrom_0.2.2.2.2.1 (Keqr ?_)
  refine lv_if_ne (tgt := 22) hx hb gX12_bodyFrom_0.2.2.2.2.2.1 (by decide) (fun c9 => absurd (by decide) c9) (fun _ => ?_)
  refine lv_iload hx hb gX12_bodyFrom_0.2.2.2.2.2.2.1 (lv_at0 hl) ?_
  refine pS hC hK hl (m_above5 l G) si_X12_348 rfl rfl (Nat.le_of_ble_eq_true rfl) rm_24_1_1 ⟨by first | exact Nat.le_of_ble_eq_true rfl | exact Nat.zero_le _, by first | exact Nat.le_of_ble_eq_true rfl | exact Nat.zero_le _⟩ gX12_bodyFrom_0.2.2.2.2.2.2.2.1 (Keqr ?_)
  refine lv_istore (lv' := [(4, .int 4), (0, .ref h0), (1, .int 5), (2, .int 1), (3, .int xx)]) hx hb gX12_bodyFrom_0.2.2.2.2.2.2.2.2.1 hl (by decide) rfl (fun ls hl => ?_)
  refine lv_goto (tgt := 3) hx hb gX12_bodyFrom_0.2.2.2.2.2.2.2.2.2 (by decide) ?_
  refine lv_iload hx hb gX12_bodyFrom_0.2.2.1 (lv_at0 hl) ?_
  refine lv_iload_n hx hb gX12_bodyFrom_0.2.2.2.1 rfl (lv_at3 hl) ?_
  refine pS hC hK hl (m_hasOwn41 l G) si_X12_360 rfl rfl (Nat.le_of_ble_eq_true rfl) rm_24_1_2 ⟨by first | exact Nat.le_of_ble_eq_true rfl | exact Nat.zero_le _, by first | exact Nat.le_of_ble_eq_true rfl | exact Nat.zero_le _⟩ gX12_bodyFrom_0.2.2.2.2.1 (Keqr ?_)
  refine lv_if_ne (tgt := 22) hx hb gX12_bodyFrom_0.2.2.2.2.2.1 (by decide) (fun c9 => absurd (by decide) c9) (fun _ => ?_)
  refine lv_iload hx hb gX12_bodyFrom_0.2.2.2.2.2.2.1 (lv_at0 hl) ?_
  refine pS hC hK hl (m_above4 l G) si_X12_348 rfl rfl (Nat.le_of_ble_eq_true rfl) rm_24_1_1 ⟨by first | exact Nat.le_of_ble_eq_true rfl | exact Nat.zero_le _, by first | exact Nat.le_of_ble_eq_true rfl | exact Nat.zero_le _⟩ gX12_bodyFrom_0.2.2.2.2.2.2.2.1 (Keqr ?_)
  refine lv_istore (lv' := [(4, .int 0), (0, .ref h0), (1, .int 5), (2, .int 1), (3, .int xx)]) hx hb gX12_bodyFrom_0.2.2.2.2.2.2.2.2.1 hl (by decide) rfl (fun ls hl => ?_)
  refine lv_goto (tgt := 3) hx hb gX12_bodyFrom_0.2.2.2.2.2.2.2.2.2 (by decide) ?_
  refine lv_iload hx hb gX12_bodyFrom_0.2.2.1 (lv_at0 hl) ?_
  refine lv_iload_n hx hb gX12_bodyFrom_0.2.2.2.1 rfl (lv_at3 hl) ?_
  refine pS hC hK hl (m_hasOwn01 l G) si_X12_360 rfl rfl (Nat.le_of_ble_eq_true rfl) rm_24_1_2 ⟨by first | exact Nat.le_of_ble_eq_true rfl | exact Nat.zero_le _, by first | exact Nat.le_of_ble_eq_true rfl | exact Nat.zero_le _⟩ gX12_bodyFrom_0.2.2.2.2.1 (Keqr ?_)
  refine lv_if_ne (tgt := 22) hx hb gX12_bodyFrom_0.2.2.2.2.2.1 (by decide) (fun _ => ?_) (fun c9 => absurd c9 (by decide))
  refine lv_aload_n hx hb gX12_bodyFrom_1.1 rfl (lv_at1 hl) ?_
  refine lv_iload hx hb gX12_bodyFrom_1.2.1 (lv_at0 hl) ?_
  refine lv_iload_n hx hb gX12_bodyFrom_1.2.2.1 rfl (lv_at3 hl) ?_
  refine lv_iload_n hx hb gX12_bodyFrom_1.2.2.2.1 rfl (lv_at4 hl) ?_
  refine iV (wr := []) hC hK hl hP hD hS hA (m_body01 l G h0 xx nw nk mhasKept nt mtaped nr mrowMany mroundOf mroundFrom mouts nm mfromHour mtoHour ns mfrom mto msort misFault mdeep mcoded mlines nl nc nF np ntr nb mbestCost nso nsi nit nsh nsf nss nrc jr jd mnumber mwhose msize misParted fnrc (hjr) (hjd)) si_X12_363 [0, 1] [] sm_0_1 fm_0_1 nd_0_1 rfl rfl (by decide) rfl rfl rfl rfl rfl (Nat.le_of_ble_eq_true rfl) rm_24_15_6 ⟨Nat.le_of_ble_eq_true rfl, Nat.le_of_ble_eq_true rfl⟩ gX12_bodyFrom_1.2.2.2.2.1 (fun r6270 => Ktu3 fun jr16272 ip16273 gtrc6274 => ?_)
  intro H locs hr6270 hP hD hS
  try dsimp only at hr6270
  refine Kpdr (ws := [(h0, oX12 nw nk mhasKept nt mtaped nr mrowMany mroundOf mroundFrom mouts nm mfromHour mtoHour ns mfrom mto msort misFault mdeep mcoded mlines nl nc nF np ntr nb mbestCost nso nsi nit nsh nsf nss nrc (nI jr16272) (nI jd) mnumber mwhose msize ip16273), (nrc, iA G 30 gtrc6274)]) hP hD (fun hP hD => ?_)
  obtain ⟨hr6270, w6275⟩ := hr6270
  refine toQ hQ0 ?_
  exact RI (v := r6270) hC hP hD hS [0, 1] (jr16272, ip16273, gtrc6274) rfl rfl (by decide) (⟨trivial, by omega⟩) rfl gX12_bodyFrom_1.2.2.2.2.2
def K_m_from61 (l : Launch) (G : GG) (h0 : Nat) (xx : Int32) (nw : Nat) (nk : Nat) (mhasKept : Int32) (nt : Nat) (mtaped : Int32) (nr : Nat) (mrowMany : Int32) (mroundOf : Int32) (mroundFrom : Int32) (mouts : Int32) (nm : Nat) (mfromHour : Int32) (mtoHour : Int32) (ns : Nat) (mfrom : Int32) (mto : Int32) (msort : Int32) (misFault : Int32) (mdeep : Int32) (mcoded : Int32) (mlines : Int32) (nl : Nat) (nc : Nat) (nF : Nat) (np : Nat) (ntr : Nat) (nb : Nat) (mbestCost : Int32) (nso : Nat) (nsi : Nat) (nit : Nat) (nsh : Nat) (nsf : Nat) (nss : Nat) (nrc : Nat) (jr : Nat) (jd : Nat) (mnumber : Int32) (mwhose : Int32) (msize : Int32) (misParted : Int32) (fnrc : Nat → Int32) : Prop := MI l G yX12_bodyFrom cX12_bodyFrom 5 (some .int) 24 0 0 [.ref h0, .int 6, .int 1, .int xx] [(h0, oX12 nw nk mhasKept nt mtaped nr mrowMany mroundOf mroundFrom mouts nm mfromHour mtoHour ns mfrom mto msort misFault mdeep mcoded mlines nl nc nF np ntr nb mbestCost nso nsi nit nsh nsf nss nrc (nI jr) (nI jd) mnumber mwhose msize misParted), (nrc, iA G 30 fnrc)] (fun (r : Int32) (u : Nat × Int32 × (Nat → Int32)) => (True) ∧ (u.1 ≤ 30)) (fun u : Nat × Int32 × (Nat → Int32) => [(h0, oX12 nw nk mhasKept nt mtaped nr mrowMany mroundOf mroundFrom mouts nm mfromHour mtoHour ns mfrom mto msort misFault mdeep mcoded mlines nl nc nF np ntr nb mbestCost nso nsi nit nsh nsf nss nrc (nI u.1) (nI jd) mnumber mwhose msize u.2.1), (nrc, iA G 30 u.2.2)])
set_option maxHeartbeats 4000000 in
set_option maxRecDepth 100000 in
theorem m_from61 (l : Launch) (G : GG) (h0 : Nat) (xx : Int32) (nw : Nat) (nk : Nat) (mhasKept : Int32) (nt : Nat) (mtaped : Int32) (nr : Nat) (mrowMany : Int32) (mroundOf : Int32) (mroundFrom : Int32) (mouts : Int32) (nm : Nat) (mfromHour : Int32) (mtoHour : Int32) (ns : Nat) (mfrom : Int32) (mto : Int32) (msort : Int32) (misFault : Int32) (mdeep : Int32) (mcoded : Int32) (mlines : Int32) (nl : Nat) (nc : Nat) (nF : Nat) (np : Nat) (ntr : Nat) (nb : Nat) (mbestCost : Int32) (nso : Nat) (nsi : Nat) (nit : Nat) (nsh : Nat) (nsf : Nat) (nss : Nat) (nrc : Nat) (jr : Nat) (jd : Nat) (mnumber : Int32) (mwhose : Int32) (msize : Int32) (misParted : Int32) (fnrc : Nat → Int32) (hjr : jr ≤ 30) (hjd : jd < 7) : K_m_from61 l G h0 xx nw nk mhasKept nt mtaped nr mrowMany mroundOf mroundFrom mouts nm mfromHour mtoHour ns mfrom mto msort misFault mdeep mcoded mlines nl nc nF np ntr nb mbestCost nso nsi nit nsh nsf nss nrc jr jd mnumber mwhose msize misParted fnrc := by
  refine MI.start (by decide +kernel) (Nat.le_of_ble_eq_true rfl) ?_
  intro p e s m below meth c A ls hC hK hP hD hS hA hl
  refine absQ (fun Q0 hQ0 => ?_)
  have hl : lv_has ls 5 [(0, .ref h0), (1, .int 6), (2, .int 1), (3, .int xx)] := hl
  refine Kan8 hC (fun hx hb hr hml hB hown hlocks hnm => ?_)
  refine lv_iload_n hx hb gX12_bodyFrom_0.1 rfl (lv_at1 hl) ?_
  refine lv_istore (lv' := [(4, .int 6), (0, .ref h0), (1, .int 6), (2, .int 1), (3, .int xx)]) hx hb gX12_bodyFrom_0.2.1 hl (by decide) rfl (fun ls hl => ?_)
  refine lv_iload hx hb gX12_bodyFrom_0.2.2.1 (lv_at0 hl) ?_
  refine lv_iload_n hx hb gX12_bodyFrom_0.2.2.2.1 rfl (lv_at3 hl) ?_
  refine pS hC hK hl (m_hasOwn61 l G) si_X12_360 rfl rfl (Nat.le_of_ble_eq_true rfl) rm_24_1_2 ⟨by first | exact Nat.le_of_ble_eq_true rfl | exact Nat.zero_le _, by first | exact Nat.le_of_ble_eq_true rfl | exact Nat.zero_le _⟩ gX12_bodyFrom_0.2.2.2.2.1 (Keqr ?_)
  refine lv_if_ne (tgt := 22) hx hb gX12_bodyFrom_0.2.2.2.2.2.1 (by decide) (fun c9 => absurd (by decide) c9) (fun _ => ?_)
  refine lv_iload hx hb gX12_bodyFrom_0.2.2.2.2.2.2.1 (lv_at0 hl) ?_
  refine pS hC hK hl (m_above6 l G) si_X12_348 rfl rfl (Nat.le_of_ble_eq_true rfl) rm_24_1_1 ⟨by first | exact Nat.le_of_ble_eq_true rfl | exact Nat.zero_le _, by first | exact Nat.le_of_ble_eq_true rfl | exact Nat.zero_le _⟩ gX12_bodyFrom_0.2.2.2.2.2.2.2.1 (Keqr ?_)
  refine lv_istore (lv' := [(4, .int 0), (0, .ref h0), (1, .int 6), (2, .int 1), (3, .int xx)]) hx hb gX12_bodyFrom_0.2.2.2.2.2.2.2.2.1 hl (by decide) rfl (fun ls hl => ?_)
  refine lv_goto (tgt := 3) hx hb gX12_bodyFrom_0.2.2.2.2.2.2.2.2.2 (by decide) ?_
  refine lv_iload hx hb gX12_bodyFrom_0.2.2.1 (lv_at0 hl) ?_
  refine lv_iload_n hx hb gX12_bodyFrom_0.2.2.2.1 rfl (lv_at3 hl) ?_
  refine pS hC hK hl (m_hasOwn01 l G) si_X12_360 rfl rfl (Nat.le_of_ble_eq_true rfl) rm_24_1_2 ⟨by first | exact Nat.le_of_ble_eq_true rfl | exact Nat.zero_le _, by first | exact Nat.le_of_ble_eq_true rfl | exact Nat.zero_le _⟩ gX12_bodyFrom_0.2.2.2.2.1 (Keqr ?_)
  refine lv_if_ne (tgt := 22) hx hb gX12_bodyFrom_0.2.2.2.2.2.1 (by decide) (fun _ => ?_) (fun c9 => absurd c9 (by decide))
  refine lv_aload_n hx hb gX12_bodyFrom_1.1 rfl (lv_at1 hl) ?_
  refine lv_iload hx hb gX12_bodyFrom_1.2.1 (lv_at0 hl) ?_
  refine lv_iload_n hx hb gX12_bodyFrom_1.2.2.1 rfl (lv_at3 hl) ?_
  refine lv_iload_n hx hb gX12_bodyFrom_1.2.2.2.1 rfl (lv_at4 hl) ?_
  refine iV (wr := []) hC hK hl hP hD hS hA (m_body01 l G h0 xx nw nk mhasKept nt mtaped nr mrowMany mroundOf mroundFrom mouts nm mfromHour mtoHour ns mfrom mto msort misFault mdeep mcoded mlines nl nc nF np ntr nb mbestCost nso nsi nit nsh nsf nss nrc jr jd mnumber mwhose msize misParted fnrc (hjr) (hjd)) si_X12_363 [0, 1] [] sm_0_1 fm_0_1 nd_0_1 rfl rfl (by decide) rfl rfl rfl rfl rfl (Nat.le_of_ble_eq_true rfl) rm_24_15_6 ⟨Nat.le_of_ble_eq_true rfl, Nat.le_of_ble_eq_true rfl⟩ gX12_bodyFrom_1.2.2.2.2.1 (fun r6282 => Ktu3 fun jr16284 ip16285 gtrc6286 => ?_)
  intro H locs hr6282 hP hD hS
  try dsimp only at hr6282
  refine Kpdr (ws := [(h0, oX12 nw nk mhasKept nt mtaped nr mrowMany mroundOf mroundFrom mouts nm mfromHour mtoHour ns mfrom mto msort misFault mdeep mcoded mlines nl nc nF np ntr nb mbestCost nso nsi nit nsh nsf nss nrc (nI jr16284) (nI jd) mnumber mwhose msize ip16285), (nrc, iA G 30 gtrc6286)]) hP hD (fun hP hD => ?_)
  obtain ⟨hr6282, w6287⟩ := hr6282
  refine toQ hQ0 ?_
  exact RI (v := r6282) hC hP hD hS [0, 1] (jr16284, ip16285, gtrc6286) rfl rfl (by decide) (⟨trivial, by omega⟩) rfl gX12_bodyFrom_1.2.2.2.2.2
def K_m_dealt1 (l : Launch) (G : GG) (h0 : Nat) (xx : Int32) (nw : Nat) (nk : Nat) (mhasKept : Int32) (nt : Nat) (mtaped : Int32) (nr : Nat) (mrowMany : Int32) (mroundOf : Int32) (mroundFrom : Int32) (mouts : Int32) (nm : Nat) (mfromHour : Int32) (mtoHour : Int32) (ns : Nat) (mfrom : Int32) (mto : Int32) (msort : Int32) (misFault : Int32) (mdeep : Int32) (mcoded : Int32) (mlines : Int32) (nl : Nat) (nc : Nat) (nF : Nat) (np : Nat) (ntr : Nat) (nb : Nat) (mbestCost : Int32) (nso : Nat) (nsi : Nat) (nit : Nat) (nsh : Nat) (nsf : Nat) (nss : Nat) (nrc : Nat) (jr : Nat) (jd : Nat) (mnumber : Int32) (mwhose : Int32) (msize : Int32) (misParted : Int32) (fnrc : Nat → Int32) : Prop := MI l G yX12_dealt cX12_dealt 3 (some .int) 26 0 0 [.ref h0, .int 1, .int xx] [(h0, oX12 nw nk mhasKept nt mtaped nr mrowMany mroundOf mroundFrom mouts nm mfromHour mtoHour ns mfrom mto msort misFault mdeep mcoded mlines nl nc nF np ntr nb mbestCost nso nsi nit nsh nsf nss nrc (nI jr) (nI jd) mnumber mwhose msize misParted), (nrc, iA G 30 fnrc)] (fun (r : Int32) (u : Nat × Int32 × (Nat → Int32)) => (True) ∧ (u.1 ≤ 30)) (fun u : Nat × Int32 × (Nat → Int32) => [(h0, oX12 nw nk mhasKept nt mtaped nr mrowMany mroundOf mroundFrom mouts nm mfromHour mtoHour ns mfrom mto msort misFault mdeep mcoded mlines nl nc nF np ntr nb mbestCost nso nsi nit nsh nsf nss nrc (nI u.1) (nI jd) mnumber mwhose msize u.2.1), (nrc, iA G 30 u.2.2)])
set_option maxHeartbeats 4000000 in
set_option maxRecDepth 100000 in
theorem m_dealt1 (l : Launch) (G : GG) (h0 : Nat) (xx : Int32) (nw : Nat) (nk : Nat) (mhasKept : Int32) (nt : Nat) (mtaped : Int32) (nr : Nat) (mrowMany : Int32) (mroundOf : Int32) (mroundFrom : Int32) (mouts : Int32) (nm : Nat) (mfromHour : Int32) (mtoHour : Int32) (ns : Nat) (mfrom : Int32) (mto : Int32) (msort : Int32) (misFault : Int32) (mdeep : Int32) (mcoded : Int32) (mlines : Int32) (nl : Nat) (nc : Nat) (nF : Nat) (np : Nat) (ntr : Nat) (nb : Nat) (mbestCost : Int32) (nso : Nat) (nsi : Nat) (nit : Nat) (nsh : Nat) (nsf : Nat) (nss : Nat) (nrc : Nat) (jr : Nat) (jd : Nat) (mnumber : Int32) (mwhose : Int32) (msize : Int32) (misParted : Int32) (fnrc : Nat → Int32) (hjr : jr ≤ 30) (hjd : jd < 7) : K_m_dealt1 l G h0 xx nw nk mhasKept nt mtaped nr mrowMany mroundOf mroundFrom mouts nm mfromHour mtoHour ns mfrom mto msort misFault mdeep mcoded mlines nl nc nF np ntr nb mbestCost nso nsi nit nsh nsf nss nrc jr jd mnumber mwhose msize misParted fnrc := by
  refine MI.start (by decide +kernel) (Nat.le_of_ble_eq_true rfl) ?_
  intro p e s m below meth c A ls hC hK hP hD hS hA hl
  refine absQ (fun Q0 hQ0 => ?_)
  have hl : lv_has ls 3 [(0, .ref h0), (1, .int 1), (2, .int xx)] := hl
  refine Kan8 hC (fun hx hb hr hml hB hown hlocks hnm => ?_)
  refine lv_aload_n hx hb gX12_dealt_0.1 rfl (lv_at0 hl) ?_
  refine lv_aload_n hx hb gX12_dealt_0.2.1 rfl (lv_at0 hl) ?_
  refine gf_X12_354 hC rfl hK hP 0 rfl rfl gX12_dealt_0.2.2.1 ?_
  refine lv_iload_n hx hb gX12_dealt_0.2.2.2.1 rfl (lv_at1 hl) ?_
  refine lv_iload_n hx hb gX12_dealt_0.2.2.2.2.1 rfl (lv_at2 hl) ?_
  rcases (show jd = 0 ∨ jd = 1 ∨ jd = 2 ∨ jd = 3 ∨ jd = 4 ∨ jd = 5 ∨ jd = 6 by omega) with rfl | rfl | rfl | rfl | rfl | rfl | rfl
  · refine iV (wr := []) hC hK hl hP hD hS hA (m_from01 l G h0 xx nw nk mhasKept nt mtaped nr mrowMany mroundOf mroundFrom mouts nm mfromHour mtoHour ns mfrom mto msort misFault mdeep mcoded mlines nl nc nF np ntr nb mbestCost nso nsi nit nsh nsf nss nrc jr 0 mnumber mwhose msize misParted fnrc (hjr) (hjd)) si_X12_357 [0, 1] [] sm_0_1 fm_0_1 nd_0_1 rfl rfl (by decide) rfl rfl rfl rfl rfl (Nat.le_of_ble_eq_true rfl) rm_26_16_5 ⟨Nat.le_of_ble_eq_true rfl, Nat.le_of_ble_eq_true rfl⟩ gX12_dealt_0.2.2.2.2.2.1 (fun r6288 => Ktu3 fun jr16290 ip16291 gtrc6292 => ?_)
    intro H locs hr6288 hP hD hS
    try dsimp only at hr6288
    refine Kpdr (ws := [(h0, oX12 nw nk mhasKept nt mtaped nr mrowMany mroundOf mroundFrom mouts nm mfromHour mtoHour ns mfrom mto msort misFault mdeep mcoded mlines nl nc nF np ntr nb mbestCost nso nsi nit nsh nsf nss nrc (nI jr16290) 0 mnumber mwhose msize ip16291), (nrc, iA G 30 gtrc6292)]) hP hD (fun hP hD => ?_)
    obtain ⟨hr6288, w6293⟩ := hr6288
    refine toQ hQ0 ?_
    exact RI (v := r6288) hC hP hD hS [0, 1] (jr16290, ip16291, gtrc6292) rfl rfl (by decide) (⟨trivial, by omega⟩) rfl gX12_dealt_0.2.2.2.2.2.2
  · refine iV (wr := []) hC hK hl hP hD hS hA (m_from11 l G h0 xx nw nk mhasKept nt mtaped nr mrowMany mroundOf mroundFrom mouts nm mfromHour mtoHour ns mfrom mto msort misFault mdeep mcoded mlines nl nc nF np ntr nb mbestCost nso nsi nit nsh nsf nss nrc jr 1 mnumber mwhose msize misParted fnrc (hjr) (hjd)) si_X12_357 [0, 1] [] sm_0_1 fm_0_1 nd_0_1 rfl rfl (by decide) rfl rfl rfl rfl rfl (Nat.le_of_ble_eq_true rfl) rm_26_18_5 ⟨Nat.le_of_ble_eq_true rfl, Nat.le_of_ble_eq_true rfl⟩ gX12_dealt_0.2.2.2.2.2.1 (fun r6294 => Ktu3 fun jr16296 ip16297 gtrc6298 => ?_)
    intro H locs hr6294 hP hD hS
    try dsimp only at hr6294
    refine Kpdr (ws := [(h0, oX12 nw nk mhasKept nt mtaped nr mrowMany mroundOf mroundFrom mouts nm mfromHour mtoHour ns mfrom mto msort misFault mdeep mcoded mlines nl nc nF np ntr nb mbestCost nso nsi nit nsh nsf nss nrc (nI jr16296) 1 mnumber mwhose msize ip16297), (nrc, iA G 30 gtrc6298)]) hP hD (fun hP hD => ?_)
    obtain ⟨hr6294, w6299⟩ := hr6294
    refine toQ hQ0 ?_
    exact RI (v := r6294) hC hP hD hS [0, 1] (jr16296, ip16297, gtrc6298) rfl rfl (by decide) (⟨trivial, by omega⟩) rfl gX12_dealt_0.2.2.2.2.2.2
  · refine iV (wr := []) hC hK hl hP hD hS hA (m_from21 l G h0 xx nw nk mhasKept nt mtaped nr mrowMany mroundOf mroundFrom mouts nm mfromHour mtoHour ns mfrom mto msort misFault mdeep mcoded mlines nl nc nF np ntr nb mbestCost nso nsi nit nsh nsf nss nrc jr 2 mnumber mwhose msize misParted fnrc (hjr) (hjd)) si_X12_357 [0, 1] [] sm_0_1 fm_0_1 nd_0_1 rfl rfl (by decide) rfl rfl rfl rfl rfl (Nat.le_of_ble_eq_true rfl) rm_26_24_5 ⟨Nat.le_of_ble_eq_true rfl, Nat.le_of_ble_eq_true rfl⟩ gX12_dealt_0.2.2.2.2.2.1 (fun r6300 => Ktu3 fun jr16302 ip16303 gtrc6304 => ?_)
    intro H locs hr6300 hP hD hS
    try dsimp only at hr6300
    refine Kpdr (ws := [(h0, oX12 nw nk mhasKept nt mtaped nr mrowMany mroundOf mroundFrom mouts nm mfromHour mtoHour ns mfrom mto msort misFault mdeep mcoded mlines nl nc nF np ntr nb mbestCost nso nsi nit nsh nsf nss nrc (nI jr16302) 2 mnumber mwhose msize ip16303), (nrc, iA G 30 gtrc6304)]) hP hD (fun hP hD => ?_)
    obtain ⟨hr6300, w6305⟩ := hr6300
    refine toQ hQ0 ?_
    exact RI (v := r6300) hC hP hD hS [0, 1] (jr16302, ip16303, gtrc6304) rfl rfl (by decide) (⟨trivial, by omega⟩) rfl gX12_dealt_0.2.2.2.2.2.2
  · refine iV (wr := []) hC hK hl hP hD hS hA (m_from31 l G h0 xx nw nk mhasKept nt mtaped nr mrowMany mroundOf mroundFrom mouts nm mfromHour mtoHour ns mfrom mto msort misFault mdeep mcoded mlines nl nc nF np ntr nb mbestCost nso nsi nit nsh nsf nss nrc jr 3 mnumber mwhose msize misParted fnrc (hjr) (hjd)) si_X12_357 [0, 1] [] sm_0_1 fm_0_1 nd_0_1 rfl rfl (by decide) rfl rfl rfl rfl rfl (Nat.le_of_ble_eq_true rfl) rm_26_20_5 ⟨Nat.le_of_ble_eq_true rfl, Nat.le_of_ble_eq_true rfl⟩ gX12_dealt_0.2.2.2.2.2.1 (fun r6306 => Ktu3 fun jr16308 ip16309 gtrc6310 => ?_)
    intro H locs hr6306 hP hD hS
    try dsimp only at hr6306
    refine Kpdr (ws := [(h0, oX12 nw nk mhasKept nt mtaped nr mrowMany mroundOf mroundFrom mouts nm mfromHour mtoHour ns mfrom mto msort misFault mdeep mcoded mlines nl nc nF np ntr nb mbestCost nso nsi nit nsh nsf nss nrc (nI jr16308) 3 mnumber mwhose msize ip16309), (nrc, iA G 30 gtrc6310)]) hP hD (fun hP hD => ?_)
    obtain ⟨hr6306, w6311⟩ := hr6306
    refine toQ hQ0 ?_
    exact RI (v := r6306) hC hP hD hS [0, 1] (jr16308, ip16309, gtrc6310) rfl rfl (by decide) (⟨trivial, by omega⟩) rfl gX12_dealt_0.2.2.2.2.2.2
  · refine iV (wr := []) hC hK hl hP hD hS hA (m_from41 l G h0 xx nw nk mhasKept nt mtaped nr mrowMany mroundOf mroundFrom mouts nm mfromHour mtoHour ns mfrom mto msort misFault mdeep mcoded mlines nl nc nF np ntr nb mbestCost nso nsi nit nsh nsf nss nrc jr 4 mnumber mwhose msize misParted fnrc (hjr) (hjd)) si_X12_357 [0, 1] [] sm_0_1 fm_0_1 nd_0_1 rfl rfl (by decide) rfl rfl rfl rfl rfl (Nat.le_of_ble_eq_true rfl) rm_26_24_5 ⟨Nat.le_of_ble_eq_true rfl, Nat.le_of_ble_eq_true rfl⟩ gX12_dealt_0.2.2.2.2.2.1 (fun r6312 => Ktu3 fun jr16314 ip16315 gtrc6316 => ?_)
    intro H locs hr6312 hP hD hS
    try dsimp only at hr6312
    refine Kpdr (ws := [(h0, oX12 nw nk mhasKept nt mtaped nr mrowMany mroundOf mroundFrom mouts nm mfromHour mtoHour ns mfrom mto msort misFault mdeep mcoded mlines nl nc nF np ntr nb mbestCost nso nsi nit nsh nsf nss nrc (nI jr16314) 4 mnumber mwhose msize ip16315), (nrc, iA G 30 gtrc6316)]) hP hD (fun hP hD => ?_)
    obtain ⟨hr6312, w6317⟩ := hr6312
    refine toQ hQ0 ?_
    exact RI (v := r6312) hC hP hD hS [0, 1] (jr16314, ip16315, gtrc6316) rfl rfl (by decide) (⟨trivial, by omega⟩) rfl gX12_dealt_0.2.2.2.2.2.2
  · refine iV (wr := []) hC hK hl hP hD hS hA (m_from51 l G h0 xx nw nk mhasKept nt mtaped nr mrowMany mroundOf mroundFrom mouts nm mfromHour mtoHour ns mfrom mto msort misFault mdeep mcoded mlines nl nc nF np ntr nb mbestCost nso nsi nit nsh nsf nss nrc jr 5 mnumber mwhose msize misParted fnrc (hjr) (hjd)) si_X12_357 [0, 1] [] sm_0_1 fm_0_1 nd_0_1 rfl rfl (by decide) rfl rfl rfl rfl rfl (Nat.le_of_ble_eq_true rfl) rm_26_24_5 ⟨Nat.le_of_ble_eq_true rfl, Nat.le_of_ble_eq_true rfl⟩ gX12_dealt_0.2.2.2.2.2.1 (fun r6318 => Ktu3 fun jr16320 ip16321 gtrc6322 => ?_)
    intro H locs hr6318 hP hD hS
    try dsimp only at hr6318
    refine Kpdr (ws := [(h0, oX12 nw nk mhasKept nt mtaped nr mrowMany mroundOf mroundFrom mouts nm mfromHour mtoHour ns mfrom mto msort misFault mdeep mcoded mlines nl nc nF np ntr nb mbestCost nso nsi nit nsh nsf nss nrc (nI jr16320) 5 mnumber mwhose msize ip16321), (nrc, iA G 30 gtrc6322)]) hP hD (fun hP hD => ?_)
    obtain ⟨hr6318, w6323⟩ := hr6318
    refine toQ hQ0 ?_
    exact RI (v := r6318) hC hP hD hS [0, 1] (jr16320, ip16321, gtrc6322) rfl rfl (by decide) (⟨trivial, by omega⟩) rfl gX12_dealt_0.2.2.2.2.2.2
  · refine iV (wr := []) hC hK hl hP hD hS hA (m_from61 l G h0 xx nw nk mhasKept nt mtaped nr mrowMany mroundOf mroundFrom mouts nm mfromHour mtoHour ns mfrom mto msort misFault mdeep mcoded mlines nl nc nF np ntr nb mbestCost nso nsi nit nsh nsf nss nrc jr 6 mnumber mwhose msize misParted fnrc (hjr) (hjd)) si_X12_357 [0, 1] [] sm_0_1 fm_0_1 nd_0_1 rfl rfl (by decide) rfl rfl rfl rfl rfl (Nat.le_of_ble_eq_true rfl) rm_26_24_5 ⟨Nat.le_of_ble_eq_true rfl, Nat.le_of_ble_eq_true rfl⟩ gX12_dealt_0.2.2.2.2.2.1 (fun r6324 => Ktu3 fun jr16326 ip16327 gtrc6328 => ?_)
    intro H locs hr6324 hP hD hS
    try dsimp only at hr6324
    refine Kpdr (ws := [(h0, oX12 nw nk mhasKept nt mtaped nr mrowMany mroundOf mroundFrom mouts nm mfromHour mtoHour ns mfrom mto msort misFault mdeep mcoded mlines nl nc nF np ntr nb mbestCost nso nsi nit nsh nsf nss nrc (nI jr16326) 6 mnumber mwhose msize ip16327), (nrc, iA G 30 gtrc6328)]) hP hD (fun hP hD => ?_)
    obtain ⟨hr6324, w6329⟩ := hr6324
    refine toQ hQ0 ?_
    exact RI (v := r6324) hC hP hD hS [0, 1] (jr16326, ip16327, gtrc6328) rfl rfl (by decide) (⟨trivial, by omega⟩) rfl gX12_dealt_0.2.2.2.2.2.2
def K_m_body02 (l : Launch) (G : GG) (h0 : Nat) (xx : Int32) (nw : Nat) (nk : Nat) (mhasKept : Int32) (nt : Nat) (mtaped : Int32) (nr : Nat) (mrowMany : Int32) (mroundOf : Int32) (mroundFrom : Int32) (mouts : Int32) (nm : Nat) (mfromHour : Int32) (mtoHour : Int32) (ns : Nat) (mfrom : Int32) (mto : Int32) (msort : Int32) (misFault : Int32) (mdeep : Int32) (mcoded : Int32) (mlines : Int32) (nl : Nat) (nc : Nat) (nF : Nat) (np : Nat) (ntr : Nat) (nb : Nat) (mbestCost : Int32) (nso : Nat) (nsi : Nat) (nit : Nat) (nsh : Nat) (nsf : Nat) (nss : Nat) (nrc : Nat) (jr : Nat) (jd : Nat) (mnumber : Int32) (mwhose : Int32) (msize : Int32) (misParted : Int32) (fnrc : Nat → Int32) : Prop := MI l G yX12_body cX12_body 6 (some .int) 27 0 0 [.ref h0, .int 0, .int 2, .int xx] [(h0, oX12 nw nk mhasKept nt mtaped nr mrowMany mroundOf mroundFrom mouts nm mfromHour mtoHour ns mfrom mto msort misFault mdeep mcoded mlines nl nc nF np ntr nb mbestCost nso nsi nit nsh nsf nss nrc (nI jr) (nI jd) mnumber mwhose msize misParted), (nrc, iA G 30 fnrc)] (fun (r : Int32) (u : Nat × Int32 × (Nat → Int32)) => (True) ∧ (u.1 ≤ 30)) (fun u : Nat × Int32 × (Nat → Int32) => [(h0, oX12 nw nk mhasKept nt mtaped nr mrowMany mroundOf mroundFrom mouts nm mfromHour mtoHour ns mfrom mto msort misFault mdeep mcoded mlines nl nc nF np ntr nb mbestCost nso nsi nit nsh nsf nss nrc (nI u.1) (nI jd) mnumber mwhose msize u.2.1), (nrc, iA G 30 u.2.2)])
set_option maxHeartbeats 4000000 in
set_option maxRecDepth 100000 in
theorem m_body02 (l : Launch) (G : GG) (h0 : Nat) (xx : Int32) (nw : Nat) (nk : Nat) (mhasKept : Int32) (nt : Nat) (mtaped : Int32) (nr : Nat) (mrowMany : Int32) (mroundOf : Int32) (mroundFrom : Int32) (mouts : Int32) (nm : Nat) (mfromHour : Int32) (mtoHour : Int32) (ns : Nat) (mfrom : Int32) (mto : Int32) (msort : Int32) (misFault : Int32) (mdeep : Int32) (mcoded : Int32) (mlines : Int32) (nl : Nat) (nc : Nat) (nF : Nat) (np : Nat) (ntr : Nat) (nb : Nat) (mbestCost : Int32) (nso : Nat) (nsi : Nat) (nit : Nat) (nsh : Nat) (nsf : Nat) (nss : Nat) (nrc : Nat) (jr : Nat) (jd : Nat) (mnumber : Int32) (mwhose : Int32) (msize : Int32) (misParted : Int32) (fnrc : Nat → Int32) (hjr : jr ≤ 30) (hjd : jd < 7) : K_m_body02 l G h0 xx nw nk mhasKept nt mtaped nr mrowMany mroundOf mroundFrom mouts nm mfromHour mtoHour ns mfrom mto msort misFault mdeep mcoded mlines nl nc nF np ntr nb mbestCost nso nsi nit nsh nsf nss nrc jr jd mnumber mwhose msize misParted fnrc := by
  refine MI.start (by decide +kernel) (Nat.le_of_ble_eq_true rfl) ?_
  intro p e s m below meth c A ls hC hK hP hD hS hA hl
  refine absQ (fun Q0 hQ0 => ?_)
  have hl : lv_has ls 6 [(0, .ref h0), (1, .int 0), (2, .int 2), (3, .int xx)] := hl
  refine Kan8 hC (fun hx hb hr hml hB hown hlocks hnm => ?_)
  refine lv_iconst (v := 4) hx hb gX12_body_0.1 (by decide) ?_
  refine lv_iload_n hx hb gX12_body_0.2.1 rfl (lv_at1 hl) ?_
  refine lv_imul hx hb gX12_body_0.2.2.1 ?_
  refine eqi (x1 := 0) (by decide) ?_
  refine lv_iload_n hx hb gX12_body_0.2.2.2.1 rfl (lv_at2 hl) ?_
  refine lv_iadd hx hb gX12_body_0.2.2.2.2.1 ?_
  refine eqi (x1 := 2) (by decide) ?_
  refine lv_tableIn (tgt := 140) hx hb gX12_body_0.2.2.2.2.2.1 (by decide) (by decide) rfl (by decide) ?_
  refine lv_aload_n hx hb gX12_body_2.2.2.2.2.1 rfl (lv_at0 hl) ?_
  refine lv_bipush (v := 12) hx hb gX12_body_2.2.2.2.2.2.1 (by decide) ?_
  refine vV (wr := []) hC hK hl hP hD hS hA (m_began l G h0 12 nw nk mhasKept nt mtaped nr mrowMany mroundOf mroundFrom mouts nm mfromHour mtoHour ns mfrom mto msort misFault mdeep mcoded mlines nl nc nF np ntr nb mbestCost nso nsi nit nsh nsf nss nrc jr (nI jd) mnumber mwhose msize misParted fnrc (hjr)) si_X12_366 [0, 1] [] sm_0_1 fm_0_1 nd_0_1 rfl rfl (by decide) rfl rfl rfl rfl rfl (Nat.le_of_ble_eq_true rfl) rm_27_1_2 ⟨Nat.le_of_ble_eq_true rfl, Nat.le_of_ble_eq_true rfl⟩ gX12_body_2.2.2.2.2.2.2.1 (Ktu2 fun jr16332 gtrc6333 => ?_)
  intro H locs hr6330 hP hD hS
  try dsimp only at hr6330
  refine Kpdr (ws := [(h0, oX12 nw nk mhasKept nt mtaped nr mrowMany mroundOf mroundFrom mouts nm mfromHour mtoHour ns mfrom mto msort misFault mdeep mcoded mlines nl nc nF np ntr nb mbestCost nso nsi nit nsh nsf nss nrc (nI jr16332) (nI jd) mnumber mwhose msize misParted), (nrc, iA G 30 gtrc6333)]) hP hD (fun hP hD => ?_)
  have w6334 := hr6330
  refine lv_aload_n hx hb gX12_body_2.2.2.2.2.2.2.2.1 rfl (lv_at0 hl) ?_
  refine lv_iconst (v := 1) hx hb gX12_body_2.2.2.2.2.2.2.2.2.1 (by decide) ?_
  refine lv_iload_n hx hb gX12_body_2.2.2.2.2.2.2.2.2.2 rfl (lv_at3 hl) ?_
  refine iV (wr := []) hC hK hl hP hD hS hA (m_dealt1 l G h0 xx nw nk mhasKept nt mtaped nr mrowMany mroundOf mroundFrom mouts nm mfromHour mtoHour ns mfrom mto msort misFault mdeep mcoded mlines nl nc nF np ntr nb mbestCost nso nsi nit nsh nsf nss nrc jr16332 jd mnumber mwhose msize misParted gtrc6333 (w6334) (hjd)) si_X12_372 [0, 1] [] sm_0_1 fm_0_1 nd_0_1 rfl rfl (by decide) rfl rfl rfl rfl rfl (Nat.le_of_ble_eq_true rfl) rm_27_26_3 ⟨Nat.le_of_ble_eq_true rfl, Nat.le_of_ble_eq_true rfl⟩ gX12_body_3.1 (fun r6335 => Ktu3 fun jr16337 ip16338 gtrc6339 => ?_)
  intro H locs hr6335 hP hD hS
  try dsimp only at hr6335
  refine Kpdr (ws := [(h0, oX12 nw nk mhasKept nt mtaped nr mrowMany mroundOf mroundFrom mouts nm mfromHour mtoHour ns mfrom mto msort misFault mdeep mcoded mlines nl nc nF np ntr nb mbestCost nso nsi nit nsh nsf nss nrc (nI jr16337) (nI jd) mnumber mwhose msize ip16338), (nrc, iA G 30 gtrc6339)]) hP hD (fun hP hD => ?_)
  obtain ⟨hr6335, w6340⟩ := hr6335
  refine lv_aload_n hx hb gX12_body_3.2.1 rfl (lv_at0 hl) ?_
  refine gf_X12_375 hC rfl hK hP 0 rfl rfl gX12_body_3.2.2.1 ?_
  refine lv_isub hx hb gX12_body_3.2.2.2.1 ?_
  refine toQ hQ0 ?_
  exact RI (v := r6335 - mwhose) hC hP hD hS [0, 1] (jr16337, ip16338, gtrc6339) rfl rfl (by decide) (⟨trivial, by omega⟩) rfl gX12_body_3.2.2.2.2.1
def K_m_from02 (l : Launch) (G : GG) (h0 : Nat) (xx : Int32) (nw : Nat) (nk : Nat) (mhasKept : Int32) (nt : Nat) (mtaped : Int32) (nr : Nat) (mrowMany : Int32) (mroundOf : Int32) (mroundFrom : Int32) (mouts : Int32) (nm : Nat) (mfromHour : Int32) (mtoHour : Int32) (ns : Nat) (mfrom : Int32) (mto : Int32) (msort : Int32) (misFault : Int32) (mdeep : Int32) (mcoded : Int32) (mlines : Int32) (nl : Nat) (nc : Nat) (nF : Nat) (np : Nat) (ntr : Nat) (nb : Nat) (mbestCost : Int32) (nso : Nat) (nsi : Nat) (nit : Nat) (nsh : Nat) (nsf : Nat) (nss : Nat) (nrc : Nat) (jr : Nat) (jd : Nat) (mnumber : Int32) (mwhose : Int32) (msize : Int32) (misParted : Int32) (fnrc : Nat → Int32) : Prop := MI l G yX12_bodyFrom cX12_bodyFrom 5 (some .int) 28 0 0 [.ref h0, .int 0, .int 2, .int xx] [(h0, oX12 nw nk mhasKept nt mtaped nr mrowMany mroundOf mroundFrom mouts nm mfromHour mtoHour ns mfrom mto msort misFault mdeep mcoded mlines nl nc nF np ntr nb mbestCost nso nsi nit nsh nsf nss nrc (nI jr) (nI jd) mnumber mwhose msize misParted), (nrc, iA G 30 fnrc)] (fun (r : Int32) (u : Nat × Int32 × (Nat → Int32)) => (True) ∧ (u.1 ≤ 30)) (fun u : Nat × Int32 × (Nat → Int32) => [(h0, oX12 nw nk mhasKept nt mtaped nr mrowMany mroundOf mroundFrom mouts nm mfromHour mtoHour ns mfrom mto msort misFault mdeep mcoded mlines nl nc nF np ntr nb mbestCost nso nsi nit nsh nsf nss nrc (nI u.1) (nI jd) mnumber mwhose msize u.2.1), (nrc, iA G 30 u.2.2)])
set_option maxHeartbeats 4000000 in
set_option maxRecDepth 100000 in
theorem m_from02 (l : Launch) (G : GG) (h0 : Nat) (xx : Int32) (nw : Nat) (nk : Nat) (mhasKept : Int32) (nt : Nat) (mtaped : Int32) (nr : Nat) (mrowMany : Int32) (mroundOf : Int32) (mroundFrom : Int32) (mouts : Int32) (nm : Nat) (mfromHour : Int32) (mtoHour : Int32) (ns : Nat) (mfrom : Int32) (mto : Int32) (msort : Int32) (misFault : Int32) (mdeep : Int32) (mcoded : Int32) (mlines : Int32) (nl : Nat) (nc : Nat) (nF : Nat) (np : Nat) (ntr : Nat) (nb : Nat) (mbestCost : Int32) (nso : Nat) (nsi : Nat) (nit : Nat) (nsh : Nat) (nsf : Nat) (nss : Nat) (nrc : Nat) (jr : Nat) (jd : Nat) (mnumber : Int32) (mwhose : Int32) (msize : Int32) (misParted : Int32) (fnrc : Nat → Int32) (hjr : jr ≤ 30) (hjd : jd < 7) : K_m_from02 l G h0 xx nw nk mhasKept nt mtaped nr mrowMany mroundOf mroundFrom mouts nm mfromHour mtoHour ns mfrom mto msort misFault mdeep mcoded mlines nl nc nF np ntr nb mbestCost nso nsi nit nsh nsf nss nrc jr jd mnumber mwhose msize misParted fnrc := by
  refine MI.start (by decide +kernel) (Nat.le_of_ble_eq_true rfl) ?_
  intro p e s m below meth c A ls hC hK hP hD hS hA hl
  refine absQ (fun Q0 hQ0 => ?_)
  have hl : lv_has ls 5 [(0, .ref h0), (1, .int 0), (2, .int 2), (3, .int xx)] := hl
  refine Kan8 hC (fun hx hb hr hml hB hown hlocks hnm => ?_)
  refine lv_iload_n hx hb gX12_bodyFrom_0.1 rfl (lv_at1 hl) ?_
  refine lv_istore (lv' := [(4, .int 0), (0, .ref h0), (1, .int 0), (2, .int 2), (3, .int xx)]) hx hb gX12_bodyFrom_0.2.1 hl (by decide) rfl (fun ls hl => ?_)
  refine lv_iload hx hb gX12_bodyFrom_0.2.2.1 (lv_at0 hl) ?_
  refine lv_iload_n hx hb gX12_bodyFrom_0.2.2.2.1 rfl (lv_at3 hl) ?_
  refine pS hC hK hl (m_hasOwn02 l G) si_X12_360 rfl rfl (Nat.le_of_ble_eq_true rfl) rm_28_1_2 ⟨by first | exact Nat.le_of_ble_eq_true rfl | exact Nat.zero_le _, by first | exact Nat.le_of_ble_eq_true rfl | exact Nat.zero_le _⟩ gX12_bodyFrom_0.2.2.2.2.1 (Keqr ?_)
  refine lv_if_ne (tgt := 22) hx hb gX12_bodyFrom_0.2.2.2.2.2.1 (by decide) (fun _ => ?_) (fun c9 => absurd c9 (by decide))
  refine lv_aload_n hx hb gX12_bodyFrom_1.1 rfl (lv_at1 hl) ?_
  refine lv_iload hx hb gX12_bodyFrom_1.2.1 (lv_at0 hl) ?_
  refine lv_iload_n hx hb gX12_bodyFrom_1.2.2.1 rfl (lv_at3 hl) ?_
  refine lv_iload_n hx hb gX12_bodyFrom_1.2.2.2.1 rfl (lv_at4 hl) ?_
  refine iV (wr := []) hC hK hl hP hD hS hA (m_body02 l G h0 xx nw nk mhasKept nt mtaped nr mrowMany mroundOf mroundFrom mouts nm mfromHour mtoHour ns mfrom mto msort misFault mdeep mcoded mlines nl nc nF np ntr nb mbestCost nso nsi nit nsh nsf nss nrc jr jd mnumber mwhose msize misParted fnrc (hjr) (hjd)) si_X12_363 [0, 1] [] sm_0_1 fm_0_1 nd_0_1 rfl rfl (by decide) rfl rfl rfl rfl rfl (Nat.le_of_ble_eq_true rfl) rm_28_27_6 ⟨Nat.le_of_ble_eq_true rfl, Nat.le_of_ble_eq_true rfl⟩ gX12_bodyFrom_1.2.2.2.2.1 (fun r6343 => Ktu3 fun jr16345 ip16346 gtrc6347 => ?_)
  intro H locs hr6343 hP hD hS
  try dsimp only at hr6343
  refine Kpdr (ws := [(h0, oX12 nw nk mhasKept nt mtaped nr mrowMany mroundOf mroundFrom mouts nm mfromHour mtoHour ns mfrom mto msort misFault mdeep mcoded mlines nl nc nF np ntr nb mbestCost nso nsi nit nsh nsf nss nrc (nI jr16345) (nI jd) mnumber mwhose msize ip16346), (nrc, iA G 30 gtrc6347)]) hP hD (fun hP hD => ?_)
  obtain ⟨hr6343, w6348⟩ := hr6343
  refine toQ hQ0 ?_
  exact RI (v := r6343) hC hP hD hS [0, 1] (jr16345, ip16346, gtrc6347) rfl rfl (by decide) (⟨trivial, by omega⟩) rfl gX12_bodyFrom_1.2.2.2.2.2
def K_m_body22 (l : Launch) (G : GG) (h0 : Nat) (xx : Int32) (nw : Nat) (nk : Nat) (mhasKept : Int32) (nt : Nat) (mtaped : Int32) (nr : Nat) (mrowMany : Int32) (mroundOf : Int32) (mroundFrom : Int32) (mouts : Int32) (nm : Nat) (mfromHour : Int32) (mtoHour : Int32) (ns : Nat) (mfrom : Int32) (mto : Int32) (msort : Int32) (misFault : Int32) (mdeep : Int32) (mcoded : Int32) (mlines : Int32) (nl : Nat) (nc : Nat) (nF : Nat) (np : Nat) (ntr : Nat) (nb : Nat) (mbestCost : Int32) (nso : Nat) (nsi : Nat) (nit : Nat) (nsh : Nat) (nsf : Nat) (nss : Nat) (nrc : Nat) (jr : Nat) (jd : Nat) (mnumber : Int32) (mwhose : Int32) (msize : Int32) (misParted : Int32) (fnrc : Nat → Int32) : Prop := MI l G yX12_body cX12_body 6 (some .int) 29 0 0 [.ref h0, .int 2, .int 2, .int xx] [(h0, oX12 nw nk mhasKept nt mtaped nr mrowMany mroundOf mroundFrom mouts nm mfromHour mtoHour ns mfrom mto msort misFault mdeep mcoded mlines nl nc nF np ntr nb mbestCost nso nsi nit nsh nsf nss nrc (nI jr) (nI jd) mnumber mwhose msize misParted), (nrc, iA G 30 fnrc)] (fun (r : Int32) (u : Nat × Int32 × (Nat → Int32)) => (True) ∧ (u.1 ≤ 30)) (fun u : Nat × Int32 × (Nat → Int32) => [(h0, oX12 nw nk mhasKept nt mtaped nr mrowMany mroundOf mroundFrom mouts nm mfromHour mtoHour ns mfrom mto msort misFault mdeep mcoded mlines nl nc nF np ntr nb mbestCost nso nsi nit nsh nsf nss nrc (nI u.1) (nI jd) mnumber mwhose msize u.2.1), (nrc, iA G 30 u.2.2)])
set_option maxHeartbeats 4000000 in
set_option maxRecDepth 100000 in
theorem m_body22 (l : Launch) (G : GG) (h0 : Nat) (xx : Int32) (nw : Nat) (nk : Nat) (mhasKept : Int32) (nt : Nat) (mtaped : Int32) (nr : Nat) (mrowMany : Int32) (mroundOf : Int32) (mroundFrom : Int32) (mouts : Int32) (nm : Nat) (mfromHour : Int32) (mtoHour : Int32) (ns : Nat) (mfrom : Int32) (mto : Int32) (msort : Int32) (misFault : Int32) (mdeep : Int32) (mcoded : Int32) (mlines : Int32) (nl : Nat) (nc : Nat) (nF : Nat) (np : Nat) (ntr : Nat) (nb : Nat) (mbestCost : Int32) (nso : Nat) (nsi : Nat) (nit : Nat) (nsh : Nat) (nsf : Nat) (nss : Nat) (nrc : Nat) (jr : Nat) (jd : Nat) (mnumber : Int32) (mwhose : Int32) (msize : Int32) (misParted : Int32) (fnrc : Nat → Int32) (hjr : jr ≤ 30) (hjd : jd < 7) : K_m_body22 l G h0 xx nw nk mhasKept nt mtaped nr mrowMany mroundOf mroundFrom mouts nm mfromHour mtoHour ns mfrom mto msort misFault mdeep mcoded mlines nl nc nF np ntr nb mbestCost nso nsi nit nsh nsf nss nrc jr jd mnumber mwhose msize misParted fnrc := by
  refine MI.start (by decide +kernel) (Nat.le_of_ble_eq_true rfl) ?_
  intro p e s m below meth c A ls hC hK hP hD hS hA hl
  refine absQ (fun Q0 hQ0 => ?_)
  have hl : lv_has ls 6 [(0, .ref h0), (1, .int 2), (2, .int 2), (3, .int xx)] := hl
  refine Kan8 hC (fun hx hb hr hml hB hown hlocks hnm => ?_)
  refine lv_iconst (v := 4) hx hb gX12_body_0.1 (by decide) ?_
  refine lv_iload_n hx hb gX12_body_0.2.1 rfl (lv_at1 hl) ?_
  refine lv_imul hx hb gX12_body_0.2.2.1 ?_
  refine eqi (x1 := 8) (by decide) ?_
  refine lv_iload_n hx hb gX12_body_0.2.2.2.1 rfl (lv_at2 hl) ?_
  refine lv_iadd hx hb gX12_body_0.2.2.2.2.1 ?_
  refine eqi (x1 := 10) (by decide) ?_
  refine lv_tableIn (tgt := 226) hx hb gX12_body_0.2.2.2.2.2.1 (by decide) (by decide) rfl (by decide) ?_
  refine lv_aload_n hx hb gX12_body_7.2.2.2.1 rfl (lv_at0 hl) ?_
  refine lv_bipush (v := 30) hx hb gX12_body_7.2.2.2.2.1 (by decide) ?_
  refine vV (wr := []) hC hK hl hP hD hS hA (m_began l G h0 30 nw nk mhasKept nt mtaped nr mrowMany mroundOf mroundFrom mouts nm mfromHour mtoHour ns mfrom mto msort misFault mdeep mcoded mlines nl nc nF np ntr nb mbestCost nso nsi nit nsh nsf nss nrc jr (nI jd) mnumber mwhose msize misParted fnrc (hjr)) si_X12_366 [0, 1] [] sm_0_1 fm_0_1 nd_0_1 rfl rfl (by decide) rfl rfl rfl rfl rfl (Nat.le_of_ble_eq_true rfl) rm_29_1_2 ⟨Nat.le_of_ble_eq_true rfl, Nat.le_of_ble_eq_true rfl⟩ gX12_body_7.2.2.2.2.2.1 (Ktu2 fun jr16351 gtrc6352 => ?_)
  intro H locs hr6349 hP hD hS
  try dsimp only at hr6349
  refine Kpdr (ws := [(h0, oX12 nw nk mhasKept nt mtaped nr mrowMany mroundOf mroundFrom mouts nm mfromHour mtoHour ns mfrom mto msort misFault mdeep mcoded mlines nl nc nF np ntr nb mbestCost nso nsi nit nsh nsf nss nrc (nI jr16351) (nI jd) mnumber mwhose msize misParted), (nrc, iA G 30 gtrc6352)]) hP hD (fun hP hD => ?_)
  have w6353 := hr6349
  refine lv_aload_n hx hb gX12_body_7.2.2.2.2.2.2.1 rfl (lv_at0 hl) ?_
  refine lv_iconst (v := 0) hx hb gX12_body_7.2.2.2.2.2.2.2.1 (by decide) ?_
  refine lv_iconst (v := 2) hx hb gX12_body_7.2.2.2.2.2.2.2.2.1 (by decide) ?_
  refine lv_iload_n hx hb gX12_body_7.2.2.2.2.2.2.2.2.2 rfl (lv_at3 hl) ?_
  refine iV (wr := []) hC hK hl hP hD hS hA (m_from02 l G h0 xx nw nk mhasKept nt mtaped nr mrowMany mroundOf mroundFrom mouts nm mfromHour mtoHour ns mfrom mto msort misFault mdeep mcoded mlines nl nc nF np ntr nb mbestCost nso nsi nit nsh nsf nss nrc jr16351 jd mnumber mwhose msize misParted gtrc6352 (w6353) (hjd)) si_X12_357 [0, 1] [] sm_0_1 fm_0_1 nd_0_1 rfl rfl (by decide) rfl rfl rfl rfl rfl (Nat.le_of_ble_eq_true rfl) rm_29_28_5 ⟨Nat.le_of_ble_eq_true rfl, Nat.le_of_ble_eq_true rfl⟩ gX12_body_8.1 (fun r6354 => Ktu3 fun jr16356 ip16357 gtrc6358 => ?_)
  intro H locs hr6354 hP hD hS
  try dsimp only at hr6354
  refine Kpdr (ws := [(h0, oX12 nw nk mhasKept nt mtaped nr mrowMany mroundOf mroundFrom mouts nm mfromHour mtoHour ns mfrom mto msort misFault mdeep mcoded mlines nl nc nF np ntr nb mbestCost nso nsi nit nsh nsf nss nrc (nI jr16356) (nI jd) mnumber mwhose msize ip16357), (nrc, iA G 30 gtrc6358)]) hP hD (fun hP hD => ?_)
  obtain ⟨hr6354, w6359⟩ := hr6354
  refine lv_iconst (v := 3) hx hb gX12_body_8.2.1 (by decide) ?_
  refine lv_imul hx hb gX12_body_8.2.2.1 ?_
  refine toQ hQ0 ?_
  exact RI (v := r6354 * 3) hC hP hD hS [0, 1] (jr16356, ip16357, gtrc6358) rfl rfl (by decide) (⟨trivial, by omega⟩) rfl gX12_body_8.2.2.2.1
def K_m_from22 (l : Launch) (G : GG) (h0 : Nat) (xx : Int32) (nw : Nat) (nk : Nat) (mhasKept : Int32) (nt : Nat) (mtaped : Int32) (nr : Nat) (mrowMany : Int32) (mroundOf : Int32) (mroundFrom : Int32) (mouts : Int32) (nm : Nat) (mfromHour : Int32) (mtoHour : Int32) (ns : Nat) (mfrom : Int32) (mto : Int32) (msort : Int32) (misFault : Int32) (mdeep : Int32) (mcoded : Int32) (mlines : Int32) (nl : Nat) (nc : Nat) (nF : Nat) (np : Nat) (ntr : Nat) (nb : Nat) (mbestCost : Int32) (nso : Nat) (nsi : Nat) (nit : Nat) (nsh : Nat) (nsf : Nat) (nss : Nat) (nrc : Nat) (jr : Nat) (jd : Nat) (mnumber : Int32) (mwhose : Int32) (msize : Int32) (misParted : Int32) (fnrc : Nat → Int32) : Prop := MI l G yX12_bodyFrom cX12_bodyFrom 5 (some .int) 30 0 0 [.ref h0, .int 2, .int 2, .int xx] [(h0, oX12 nw nk mhasKept nt mtaped nr mrowMany mroundOf mroundFrom mouts nm mfromHour mtoHour ns mfrom mto msort misFault mdeep mcoded mlines nl nc nF np ntr nb mbestCost nso nsi nit nsh nsf nss nrc (nI jr) (nI jd) mnumber mwhose msize misParted), (nrc, iA G 30 fnrc)] (fun (r : Int32) (u : Nat × Int32 × (Nat → Int32)) => (True) ∧ (u.1 ≤ 30)) (fun u : Nat × Int32 × (Nat → Int32) => [(h0, oX12 nw nk mhasKept nt mtaped nr mrowMany mroundOf mroundFrom mouts nm mfromHour mtoHour ns mfrom mto msort misFault mdeep mcoded mlines nl nc nF np ntr nb mbestCost nso nsi nit nsh nsf nss nrc (nI u.1) (nI jd) mnumber mwhose msize u.2.1), (nrc, iA G 30 u.2.2)])
set_option maxHeartbeats 4000000 in
set_option maxRecDepth 100000 in
theorem m_from22 (l : Launch) (G : GG) (h0 : Nat) (xx : Int32) (nw : Nat) (nk : Nat) (mhasKept : Int32) (nt : Nat) (mtaped : Int32) (nr : Nat) (mrowMany : Int32) (mroundOf : Int32) (mroundFrom : Int32) (mouts : Int32) (nm : Nat) (mfromHour : Int32) (mtoHour : Int32) (ns : Nat) (mfrom : Int32) (mto : Int32) (msort : Int32) (misFault : Int32) (mdeep : Int32) (mcoded : Int32) (mlines : Int32) (nl : Nat) (nc : Nat) (nF : Nat) (np : Nat) (ntr : Nat) (nb : Nat) (mbestCost : Int32) (nso : Nat) (nsi : Nat) (nit : Nat) (nsh : Nat) (nsf : Nat) (nss : Nat) (nrc : Nat) (jr : Nat) (jd : Nat) (mnumber : Int32) (mwhose : Int32) (msize : Int32) (misParted : Int32) (fnrc : Nat → Int32) (hjr : jr ≤ 30) (hjd : jd < 7) : K_m_from22 l G h0 xx nw nk mhasKept nt mtaped nr mrowMany mroundOf mroundFrom mouts nm mfromHour mtoHour ns mfrom mto msort misFault mdeep mcoded mlines nl nc nF np ntr nb mbestCost nso nsi nit nsh nsf nss nrc jr jd mnumber mwhose msize misParted fnrc := by
  refine MI.start (by decide +kernel) (Nat.le_of_ble_eq_true rfl) ?_
  intro p e s m below meth c A ls hC hK hP hD hS hA hl
  refine absQ (fun Q0 hQ0 => ?_)
  have hl : lv_has ls 5 [(0, .ref h0), (1, .int 2), (2, .int 2), (3, .int xx)] := hl
  refine Kan8 hC (fun hx hb hr hml hB hown hlocks hnm => ?_)
  refine lv_iload_n hx hb gX12_bodyFrom_0.1 rfl (lv_at1 hl) ?_
  refine lv_istore (lv' := [(4, .int 2), (0, .ref h0), (1, .int 2), (2, .int 2), (3, .int xx)]) hx hb gX12_bodyFrom_0.2.1 hl (by decide) rfl (fun ls hl => ?_)
  refine lv_iload hx hb gX12_bodyFrom_0.2.2.1 (lv_at0 hl) ?_
  refine lv_iload_n hx hb gX12_bodyFrom_0.2.2.2.1 rfl (lv_at3 hl) ?_
  refine pS hC hK hl (m_hasOwn22 l G) si_X12_360 rfl rfl (Nat.le_of_ble_eq_true rfl) rm_30_1_2 ⟨by first | exact Nat.le_of_ble_eq_true rfl | exact Nat.zero_le _, by first | exact Nat.le_of_ble_eq_true rfl | exact Nat.zero_le _⟩ gX12_bodyFrom_0.2.2.2.2.1 (Keqr ?_)
  refine lv_if_ne (tgt := 22) hx hb gX12_bodyFrom_0.2.2.2.2.2.1 (by decide) (fun _ => ?_) (fun c9 => absurd c9 (by decide))
  refine lv_aload_n hx hb gX12_bodyFrom_1.1 rfl (lv_at1 hl) ?_
  refine lv_iload hx hb gX12_bodyFrom_1.2.1 (lv_at0 hl) ?_
  refine lv_iload_n hx hb gX12_bodyFrom_1.2.2.1 rfl (lv_at3 hl) ?_
  refine lv_iload_n hx hb gX12_bodyFrom_1.2.2.2.1 rfl (lv_at4 hl) ?_
  refine iV (wr := []) hC hK hl hP hD hS hA (m_body22 l G h0 xx nw nk mhasKept nt mtaped nr mrowMany mroundOf mroundFrom mouts nm mfromHour mtoHour ns mfrom mto msort misFault mdeep mcoded mlines nl nc nF np ntr nb mbestCost nso nsi nit nsh nsf nss nrc jr jd mnumber mwhose msize misParted fnrc (hjr) (hjd)) si_X12_363 [0, 1] [] sm_0_1 fm_0_1 nd_0_1 rfl rfl (by decide) rfl rfl rfl rfl rfl (Nat.le_of_ble_eq_true rfl) rm_30_29_6 ⟨Nat.le_of_ble_eq_true rfl, Nat.le_of_ble_eq_true rfl⟩ gX12_bodyFrom_1.2.2.2.2.1 (fun r6362 => Ktu3 fun jr16364 ip16365 gtrc6366 => ?_)
  intro H locs hr6362 hP hD hS
  try dsimp only at hr6362
  refine Kpdr (ws := [(h0, oX12 nw nk mhasKept nt mtaped nr mrowMany mroundOf mroundFrom mouts nm mfromHour mtoHour ns mfrom mto msort misFault mdeep mcoded mlines nl nc nF np ntr nb mbestCost nso nsi nit nsh nsf nss nrc (nI jr16364) (nI jd) mnumber mwhose msize ip16365), (nrc, iA G 30 gtrc6366)]) hP hD (fun hP hD => ?_)
  obtain ⟨hr6362, w6367⟩ := hr6362
  refine toQ hQ0 ?_
  exact RI (v := r6362) hC hP hD hS [0, 1] (jr16364, ip16365, gtrc6366) rfl rfl (by decide) (⟨trivial, by omega⟩) rfl gX12_bodyFrom_1.2.2.2.2.2
def K_m_body42 (l : Launch) (G : GG) (h0 : Nat) (xx : Int32) (nw : Nat) (nk : Nat) (mhasKept : Int32) (nt : Nat) (mtaped : Int32) (nr : Nat) (mrowMany : Int32) (mroundOf : Int32) (mroundFrom : Int32) (mouts : Int32) (nm : Nat) (mfromHour : Int32) (mtoHour : Int32) (ns : Nat) (mfrom : Int32) (mto : Int32) (msort : Int32) (misFault : Int32) (mdeep : Int32) (mcoded : Int32) (mlines : Int32) (nl : Nat) (nc : Nat) (nF : Nat) (np : Nat) (ntr : Nat) (nb : Nat) (mbestCost : Int32) (nso : Nat) (nsi : Nat) (nit : Nat) (nsh : Nat) (nsf : Nat) (nss : Nat) (nrc : Nat) (jr : Nat) (jd : Nat) (mnumber : Int32) (mwhose : Int32) (msize : Int32) (misParted : Int32) (fnrc : Nat → Int32) : Prop := MI l G yX12_body cX12_body 6 (some .int) 31 0 0 [.ref h0, .int 4, .int 2, .int xx] [(h0, oX12 nw nk mhasKept nt mtaped nr mrowMany mroundOf mroundFrom mouts nm mfromHour mtoHour ns mfrom mto msort misFault mdeep mcoded mlines nl nc nF np ntr nb mbestCost nso nsi nit nsh nsf nss nrc (nI jr) (nI jd) mnumber mwhose msize misParted), (nrc, iA G 30 fnrc)] (fun (r : Int32) (u : Nat × Int32 × (Nat → Int32)) => (True) ∧ (u.1 ≤ 30)) (fun u : Nat × Int32 × (Nat → Int32) => [(h0, oX12 nw nk mhasKept nt mtaped nr mrowMany mroundOf mroundFrom mouts nm mfromHour mtoHour ns mfrom mto msort misFault mdeep mcoded mlines nl nc nF np ntr nb mbestCost nso nsi nit nsh nsf nss nrc (nI u.1) (nI jd) mnumber mwhose msize u.2.1), (nrc, iA G 30 u.2.2)])
set_option maxHeartbeats 4000000 in
set_option maxRecDepth 100000 in
theorem m_body42 (l : Launch) (G : GG) (h0 : Nat) (xx : Int32) (nw : Nat) (nk : Nat) (mhasKept : Int32) (nt : Nat) (mtaped : Int32) (nr : Nat) (mrowMany : Int32) (mroundOf : Int32) (mroundFrom : Int32) (mouts : Int32) (nm : Nat) (mfromHour : Int32) (mtoHour : Int32) (ns : Nat) (mfrom : Int32) (mto : Int32) (msort : Int32) (misFault : Int32) (mdeep : Int32) (mcoded : Int32) (mlines : Int32) (nl : Nat) (nc : Nat) (nF : Nat) (np : Nat) (ntr : Nat) (nb : Nat) (mbestCost : Int32) (nso : Nat) (nsi : Nat) (nit : Nat) (nsh : Nat) (nsf : Nat) (nss : Nat) (nrc : Nat) (jr : Nat) (jd : Nat) (mnumber : Int32) (mwhose : Int32) (msize : Int32) (misParted : Int32) (fnrc : Nat → Int32) (hjr : jr ≤ 30) (hjd : jd < 7) : K_m_body42 l G h0 xx nw nk mhasKept nt mtaped nr mrowMany mroundOf mroundFrom mouts nm mfromHour mtoHour ns mfrom mto msort misFault mdeep mcoded mlines nl nc nF np ntr nb mbestCost nso nsi nit nsh nsf nss nrc jr jd mnumber mwhose msize misParted fnrc := by
  refine MI.start (by decide +kernel) (Nat.le_of_ble_eq_true rfl) ?_
  intro p e s m below meth c A ls hC hK hP hD hS hA hl
  refine absQ (fun Q0 hQ0 => ?_)
  have hl : lv_has ls 6 [(0, .ref h0), (1, .int 4), (2, .int 2), (3, .int xx)] := hl
  refine Kan8 hC (fun hx hb hr hml hB hown hlocks hnm => ?_)
  refine lv_iconst (v := 4) hx hb gX12_body_0.1 (by decide) ?_
  refine lv_iload_n hx hb gX12_body_0.2.1 rfl (lv_at1 hl) ?_
  refine lv_imul hx hb gX12_body_0.2.2.1 ?_
  refine eqi (x1 := 16) (by decide) ?_
  refine lv_iload_n hx hb gX12_body_0.2.2.2.1 rfl (lv_at2 hl) ?_
  refine lv_iadd hx hb gX12_body_0.2.2.2.2.1 ?_
  refine eqi (x1 := 18) (by decide) ?_
  refine lv_tableIn (tgt := 293) hx hb gX12_body_0.2.2.2.2.2.1 (by decide) (by decide) rfl (by decide) ?_
  refine lv_aload_n hx hb gX12_body_11.2.2.2.2.2.2.2.2.1 rfl (lv_at0 hl) ?_
  refine lv_bipush (v := 51) hx hb gX12_body_11.2.2.2.2.2.2.2.2.2 (by decide) ?_
  refine vV (wr := []) hC hK hl hP hD hS hA (m_began l G h0 51 nw nk mhasKept nt mtaped nr mrowMany mroundOf mroundFrom mouts nm mfromHour mtoHour ns mfrom mto msort misFault mdeep mcoded mlines nl nc nF np ntr nb mbestCost nso nsi nit nsh nsf nss nrc jr (nI jd) mnumber mwhose msize misParted fnrc (hjr)) si_X12_366 [0, 1] [] sm_0_1 fm_0_1 nd_0_1 rfl rfl (by decide) rfl rfl rfl rfl rfl (Nat.le_of_ble_eq_true rfl) rm_31_1_2 ⟨Nat.le_of_ble_eq_true rfl, Nat.le_of_ble_eq_true rfl⟩ gX12_body_12.1 (Ktu2 fun jr16370 gtrc6371 => ?_)
  intro H locs hr6368 hP hD hS
  try dsimp only at hr6368
  refine Kpdr (ws := [(h0, oX12 nw nk mhasKept nt mtaped nr mrowMany mroundOf mroundFrom mouts nm mfromHour mtoHour ns mfrom mto msort misFault mdeep mcoded mlines nl nc nF np ntr nb mbestCost nso nsi nit nsh nsf nss nrc (nI jr16370) (nI jd) mnumber mwhose msize misParted), (nrc, iA G 30 gtrc6371)]) hP hD (fun hP hD => ?_)
  have w6372 := hr6368
  refine lv_aload_n hx hb gX12_body_12.2.1 rfl (lv_at0 hl) ?_
  refine lv_iconst (v := 0) hx hb gX12_body_12.2.2.1 (by decide) ?_
  refine lv_iconst (v := 2) hx hb gX12_body_12.2.2.2.1 (by decide) ?_
  refine lv_iload_n hx hb gX12_body_12.2.2.2.2.1 rfl (lv_at3 hl) ?_
  refine iV (wr := []) hC hK hl hP hD hS hA (m_from02 l G h0 xx nw nk mhasKept nt mtaped nr mrowMany mroundOf mroundFrom mouts nm mfromHour mtoHour ns mfrom mto msort misFault mdeep mcoded mlines nl nc nF np ntr nb mbestCost nso nsi nit nsh nsf nss nrc jr16370 jd mnumber mwhose msize misParted gtrc6371 (w6372) (hjd)) si_X12_357 [0, 1] [] sm_0_1 fm_0_1 nd_0_1 rfl rfl (by decide) rfl rfl rfl rfl rfl (Nat.le_of_ble_eq_true rfl) rm_31_28_5 ⟨Nat.le_of_ble_eq_true rfl, Nat.le_of_ble_eq_true rfl⟩ gX12_body_12.2.2.2.2.2.1 (fun r6373 => Ktu3 fun jr16375 ip16376 gtrc6377 => ?_)
  intro H locs hr6373 hP hD hS
  try dsimp only at hr6373
  refine Kpdr (ws := [(h0, oX12 nw nk mhasKept nt mtaped nr mrowMany mroundOf mroundFrom mouts nm mfromHour mtoHour ns mfrom mto msort misFault mdeep mcoded mlines nl nc nF np ntr nb mbestCost nso nsi nit nsh nsf nss nrc (nI jr16375) (nI jd) mnumber mwhose msize ip16376), (nrc, iA G 30 gtrc6377)]) hP hD (fun hP hD => ?_)
  obtain ⟨hr6373, w6378⟩ := hr6373
  refine lv_istore (lv' := [(4, .int r6373), (0, .ref h0), (1, .int 4), (2, .int 2), (3, .int xx)]) hx hb gX12_body_12.2.2.2.2.2.2.1 hl (by decide) rfl (fun ls hl => ?_)
  refine lv_iload hx hb gX12_body_12.2.2.2.2.2.2.2.1 (lv_at0 hl) ?_
  refine lv_aload_n hx hb gX12_body_12.2.2.2.2.2.2.2.2.1 rfl (lv_at1 hl) ?_
  refine lv_iconst (v := 1) hx hb gX12_body_12.2.2.2.2.2.2.2.2.2 (by decide) ?_
  refine lv_iconst (v := 1) hx hb gX12_body_13.1 (by decide) ?_
  refine iV (wr := []) hC hK hl hP hD hS hA (m_dealt1 l G h0 1 nw nk mhasKept nt mtaped nr mrowMany mroundOf mroundFrom mouts nm mfromHour mtoHour ns mfrom mto msort misFault mdeep mcoded mlines nl nc nF np ntr nb mbestCost nso nsi nit nsh nsf nss nrc jr16375 jd mnumber mwhose msize ip16376 gtrc6377 (w6378) (hjd)) si_X12_372 [0, 1] [] sm_0_1 fm_0_1 nd_0_1 rfl rfl (by decide) rfl rfl rfl rfl rfl (Nat.le_of_ble_eq_true rfl) rm_31_26_3 ⟨Nat.le_of_ble_eq_true rfl, Nat.le_of_ble_eq_true rfl⟩ gX12_body_13.2.1 (fun r6379 => Ktu3 fun jr16381 ip16382 gtrc6383 => ?_)
  intro H locs hr6379 hP hD hS
  try dsimp only at hr6379
  refine Kpdr (ws := [(h0, oX12 nw nk mhasKept nt mtaped nr mrowMany mroundOf mroundFrom mouts nm mfromHour mtoHour ns mfrom mto msort misFault mdeep mcoded mlines nl nc nF np ntr nb mbestCost nso nsi nit nsh nsf nss nrc (nI jr16381) (nI jd) mnumber mwhose msize ip16382), (nrc, iA G 30 gtrc6383)]) hP hD (fun hP hD => ?_)
  obtain ⟨hr6379, w6384⟩ := hr6379
  refine lv_iadd hx hb gX12_body_13.2.2.1 ?_
  refine toQ hQ0 ?_
  exact RI (v := r6373 + r6379) hC hP hD hS [0, 1] (jr16381, ip16382, gtrc6383) rfl rfl (by decide) (⟨trivial, by omega⟩) rfl gX12_body_13.2.2.2.1
def K_m_from42 (l : Launch) (G : GG) (h0 : Nat) (xx : Int32) (nw : Nat) (nk : Nat) (mhasKept : Int32) (nt : Nat) (mtaped : Int32) (nr : Nat) (mrowMany : Int32) (mroundOf : Int32) (mroundFrom : Int32) (mouts : Int32) (nm : Nat) (mfromHour : Int32) (mtoHour : Int32) (ns : Nat) (mfrom : Int32) (mto : Int32) (msort : Int32) (misFault : Int32) (mdeep : Int32) (mcoded : Int32) (mlines : Int32) (nl : Nat) (nc : Nat) (nF : Nat) (np : Nat) (ntr : Nat) (nb : Nat) (mbestCost : Int32) (nso : Nat) (nsi : Nat) (nit : Nat) (nsh : Nat) (nsf : Nat) (nss : Nat) (nrc : Nat) (jr : Nat) (jd : Nat) (mnumber : Int32) (mwhose : Int32) (msize : Int32) (misParted : Int32) (fnrc : Nat → Int32) : Prop := MI l G yX12_bodyFrom cX12_bodyFrom 5 (some .int) 32 0 0 [.ref h0, .int 4, .int 2, .int xx] [(h0, oX12 nw nk mhasKept nt mtaped nr mrowMany mroundOf mroundFrom mouts nm mfromHour mtoHour ns mfrom mto msort misFault mdeep mcoded mlines nl nc nF np ntr nb mbestCost nso nsi nit nsh nsf nss nrc (nI jr) (nI jd) mnumber mwhose msize misParted), (nrc, iA G 30 fnrc)] (fun (r : Int32) (u : Nat × Int32 × (Nat → Int32)) => (True) ∧ (u.1 ≤ 30)) (fun u : Nat × Int32 × (Nat → Int32) => [(h0, oX12 nw nk mhasKept nt mtaped nr mrowMany mroundOf mroundFrom mouts nm mfromHour mtoHour ns mfrom mto msort misFault mdeep mcoded mlines nl nc nF np ntr nb mbestCost nso nsi nit nsh nsf nss nrc (nI u.1) (nI jd) mnumber mwhose msize u.2.1), (nrc, iA G 30 u.2.2)])
set_option maxHeartbeats 4000000 in
set_option maxRecDepth 100000 in
theorem m_from42 (l : Launch) (G : GG) (h0 : Nat) (xx : Int32) (nw : Nat) (nk : Nat) (mhasKept : Int32) (nt : Nat) (mtaped : Int32) (nr : Nat) (mrowMany : Int32) (mroundOf : Int32) (mroundFrom : Int32) (mouts : Int32) (nm : Nat) (mfromHour : Int32) (mtoHour : Int32) (ns : Nat) (mfrom : Int32) (mto : Int32) (msort : Int32) (misFault : Int32) (mdeep : Int32) (mcoded : Int32) (mlines : Int32) (nl : Nat) (nc : Nat) (nF : Nat) (np : Nat) (ntr : Nat) (nb : Nat) (mbestCost : Int32) (nso : Nat) (nsi : Nat) (nit : Nat) (nsh : Nat) (nsf : Nat) (nss : Nat) (nrc : Nat) (jr : Nat) (jd : Nat) (mnumber : Int32) (mwhose : Int32) (msize : Int32) (misParted : Int32) (fnrc : Nat → Int32) (hjr : jr ≤ 30) (hjd : jd < 7) : K_m_from42 l G h0 xx nw nk mhasKept nt mtaped nr mrowMany mroundOf mroundFrom mouts nm mfromHour mtoHour ns mfrom mto msort misFault mdeep mcoded mlines nl nc nF np ntr nb mbestCost nso nsi nit nsh nsf nss nrc jr jd mnumber mwhose msize misParted fnrc := by
  refine MI.start (by decide +kernel) (Nat.le_of_ble_eq_true rfl) ?_
  intro p e s m below meth c A ls hC hK hP hD hS hA hl
  refine absQ (fun Q0 hQ0 => ?_)
  have hl : lv_has ls 5 [(0, .ref h0), (1, .int 4), (2, .int 2), (3, .int xx)] := hl
  refine Kan8 hC (fun hx hb hr hml hB hown hlocks hnm => ?_)
  refine lv_iload_n hx hb gX12_bodyFrom_0.1 rfl (lv_at1 hl) ?_
  refine lv_istore (lv' := [(4, .int 4), (0, .ref h0), (1, .int 4), (2, .int 2), (3, .int xx)]) hx hb gX12_bodyFrom_0.2.1 hl (by decide) rfl (fun ls hl => ?_)
  refine lv_iload hx hb gX12_bodyFrom_0.2.2.1 (lv_at0 hl) ?_
  refine lv_iload_n hx hb gX12_bodyFrom_0.2.2.2.1 rfl (lv_at3 hl) ?_
  refine pS hC hK hl (m_hasOwn42 l G) si_X12_360 rfl rfl (Nat.le_of_ble_eq_true rfl) rm_32_1_2 ⟨by first | exact Nat.le_of_ble_eq_true rfl | exact Nat.zero_le _, by first | exact Nat.le_of_ble_eq_true rfl | exact Nat.zero_le _⟩ gX12_bodyFrom_0.2.2.2.2.1 (Keqr ?_)
  refine lv_if_ne (tgt := 22) hx hb gX12_bodyFrom_0.2.2.2.2.2.1 (by decide) (fun _ => ?_) (fun c9 => absurd c9 (by decide))
  refine lv_aload_n hx hb gX12_bodyFrom_1.1 rfl (lv_at1 hl) ?_
  refine lv_iload hx hb gX12_bodyFrom_1.2.1 (lv_at0 hl) ?_
  refine lv_iload_n hx hb gX12_bodyFrom_1.2.2.1 rfl (lv_at3 hl) ?_
  refine lv_iload_n hx hb gX12_bodyFrom_1.2.2.2.1 rfl (lv_at4 hl) ?_
  refine iV (wr := []) hC hK hl hP hD hS hA (m_body42 l G h0 xx nw nk mhasKept nt mtaped nr mrowMany mroundOf mroundFrom mouts nm mfromHour mtoHour ns mfrom mto msort misFault mdeep mcoded mlines nl nc nF np ntr nb mbestCost nso nsi nit nsh nsf nss nrc jr jd mnumber mwhose msize misParted fnrc (hjr) (hjd)) si_X12_363 [0, 1] [] sm_0_1 fm_0_1 nd_0_1 rfl rfl (by decide) rfl rfl rfl rfl rfl (Nat.le_of_ble_eq_true rfl) rm_32_31_6 ⟨Nat.le_of_ble_eq_true rfl, Nat.le_of_ble_eq_true rfl⟩ gX12_bodyFrom_1.2.2.2.2.1 (fun r6387 => Ktu3 fun jr16389 ip16390 gtrc6391 => ?_)
  intro H locs hr6387 hP hD hS
  try dsimp only at hr6387
  refine Kpdr (ws := [(h0, oX12 nw nk mhasKept nt mtaped nr mrowMany mroundOf mroundFrom mouts nm mfromHour mtoHour ns mfrom mto msort misFault mdeep mcoded mlines nl nc nF np ntr nb mbestCost nso nsi nit nsh nsf nss nrc (nI jr16389) (nI jd) mnumber mwhose msize ip16390), (nrc, iA G 30 gtrc6391)]) hP hD (fun hP hD => ?_)
  obtain ⟨hr6387, w6392⟩ := hr6387
  refine toQ hQ0 ?_
  exact RI (v := r6387) hC hP hD hS [0, 1] (jr16389, ip16390, gtrc6391) rfl rfl (by decide) (⟨trivial, by omega⟩) rfl gX12_bodyFrom_1.2.2.2.2.2
def K_m_body52 (l : Launch) (G : GG) (h0 : Nat) (xx : Int32) (nw : Nat) (nk : Nat) (mhasKept : Int32) (nt : Nat) (mtaped : Int32) (nr : Nat) (mrowMany : Int32) (mroundOf : Int32) (mroundFrom : Int32) (mouts : Int32) (nm : Nat) (mfromHour : Int32) (mtoHour : Int32) (ns : Nat) (mfrom : Int32) (mto : Int32) (msort : Int32) (misFault : Int32) (mdeep : Int32) (mcoded : Int32) (mlines : Int32) (nl : Nat) (nc : Nat) (nF : Nat) (np : Nat) (ntr : Nat) (nb : Nat) (mbestCost : Int32) (nso : Nat) (nsi : Nat) (nit : Nat) (nsh : Nat) (nsf : Nat) (nss : Nat) (nrc : Nat) (jr : Nat) (jd : Nat) (mnumber : Int32) (mwhose : Int32) (msize : Int32) (misParted : Int32) (fnrc : Nat → Int32) : Prop := MI l G yX12_body cX12_body 6 (some .int) 33 0 0 [.ref h0, .int 5, .int 2, .int xx] [(h0, oX12 nw nk mhasKept nt mtaped nr mrowMany mroundOf mroundFrom mouts nm mfromHour mtoHour ns mfrom mto msort misFault mdeep mcoded mlines nl nc nF np ntr nb mbestCost nso nsi nit nsh nsf nss nrc (nI jr) (nI jd) mnumber mwhose msize misParted), (nrc, iA G 30 fnrc)] (fun (r : Int32) (u : Nat × Int32 × (Nat → Int32)) => (True) ∧ (u.1 ≤ 30)) (fun u : Nat × Int32 × (Nat → Int32) => [(h0, oX12 nw nk mhasKept nt mtaped nr mrowMany mroundOf mroundFrom mouts nm mfromHour mtoHour ns mfrom mto msort misFault mdeep mcoded mlines nl nc nF np ntr nb mbestCost nso nsi nit nsh nsf nss nrc (nI u.1) (nI jd) mnumber mwhose msize u.2.1), (nrc, iA G 30 u.2.2)])
set_option maxHeartbeats 4000000 in
set_option maxRecDepth 100000 in
theorem m_body52 (l : Launch) (G : GG) (h0 : Nat) (xx : Int32) (nw : Nat) (nk : Nat) (mhasKept : Int32) (nt : Nat) (mtaped : Int32) (nr : Nat) (mrowMany : Int32) (mroundOf : Int32) (mroundFrom : Int32) (mouts : Int32) (nm : Nat) (mfromHour : Int32) (mtoHour : Int32) (ns : Nat) (mfrom : Int32) (mto : Int32) (msort : Int32) (misFault : Int32) (mdeep : Int32) (mcoded : Int32) (mlines : Int32) (nl : Nat) (nc : Nat) (nF : Nat) (np : Nat) (ntr : Nat) (nb : Nat) (mbestCost : Int32) (nso : Nat) (nsi : Nat) (nit : Nat) (nsh : Nat) (nsf : Nat) (nss : Nat) (nrc : Nat) (jr : Nat) (jd : Nat) (mnumber : Int32) (mwhose : Int32) (msize : Int32) (misParted : Int32) (fnrc : Nat → Int32) (hjr : jr ≤ 30) (hjd : jd < 7) : K_m_body52 l G h0 xx nw nk mhasKept nt mtaped nr mrowMany mroundOf mroundFrom mouts nm mfromHour mtoHour ns mfrom mto msort misFault mdeep mcoded mlines nl nc nF np ntr nb mbestCost nso nsi nit nsh nsf nss nrc jr jd mnumber mwhose msize misParted fnrc := by
  refine MI.start (by decide +kernel) (Nat.le_of_ble_eq_true rfl) ?_
  intro p e s m below meth c A ls hC hK hP hD hS hA hl
  refine absQ (fun Q0 hQ0 => ?_)
  have hl : lv_has ls 6 [(0, .ref h0), (1, .int 5), (2, .int 2), (3, .int xx)] := hl
  refine Kan8 hC (fun hx hb hr hml hB hown hlocks hnm => ?_)
  refine lv_iconst (v := 4) hx hb gX12_body_0.1 (by decide) ?_
  refine lv_iload_n hx hb gX12_body_0.2.1 rfl (lv_at1 hl) ?_
  refine lv_imul hx hb gX12_body_0.2.2.1 ?_
  refine eqi (x1 := 20) (by decide) ?_
  refine lv_iload_n hx hb gX12_body_0.2.2.2.1 rfl (lv_at2 hl) ?_
  refine lv_iadd hx hb gX12_body_0.2.2.2.2.1 ?_
  refine eqi (x1 := 22) (by decide) ?_
  refine lv_tableIn (tgt := 318) hx hb gX12_body_0.2.2.2.2.2.1 (by decide) (by decide) rfl (by decide) ?_
  refine lv_aload_n hx hb gX12_body_13.2.2.2.2.1 rfl (lv_at0 hl) ?_
  refine lv_bipush (v := 60) hx hb gX12_body_13.2.2.2.2.2.1 (by decide) ?_
  refine vV (wr := []) hC hK hl hP hD hS hA (m_began l G h0 60 nw nk mhasKept nt mtaped nr mrowMany mroundOf mroundFrom mouts nm mfromHour mtoHour ns mfrom mto msort misFault mdeep mcoded mlines nl nc nF np ntr nb mbestCost nso nsi nit nsh nsf nss nrc jr (nI jd) mnumber mwhose msize misParted fnrc (hjr)) si_X12_366 [0, 1] [] sm_0_1 fm_0_1 nd_0_1 rfl rfl (by decide) rfl rfl rfl rfl rfl (Nat.le_of_ble_eq_true rfl) rm_33_1_2 ⟨Nat.le_of_ble_eq_true rfl, Nat.le_of_ble_eq_true rfl⟩ gX12_body_13.2.2.2.2.2.2.1 (Ktu2 fun jr16395 gtrc6396 => ?_)
  intro H locs hr6393 hP hD hS
  try dsimp only at hr6393
  refine Kpdr (ws := [(h0, oX12 nw nk mhasKept nt mtaped nr mrowMany mroundOf mroundFrom mouts nm mfromHour mtoHour ns mfrom mto msort misFault mdeep mcoded mlines nl nc nF np ntr nb mbestCost nso nsi nit nsh nsf nss nrc (nI jr16395) (nI jd) mnumber mwhose msize misParted), (nrc, iA G 30 gtrc6396)]) hP hD (fun hP hD => ?_)
  have w6397 := hr6393
  refine lv_aload_n hx hb gX12_body_13.2.2.2.2.2.2.2.1 rfl (lv_at0 hl) ?_
  refine lv_iconst (v := 4) hx hb gX12_body_13.2.2.2.2.2.2.2.2.1 (by decide) ?_
  refine lv_iconst (v := 2) hx hb gX12_body_13.2.2.2.2.2.2.2.2.2 (by decide) ?_
  refine lv_iload_n hx hb gX12_body_14.1 rfl (lv_at3 hl) ?_
  refine iV (wr := []) hC hK hl hP hD hS hA (m_from42 l G h0 xx nw nk mhasKept nt mtaped nr mrowMany mroundOf mroundFrom mouts nm mfromHour mtoHour ns mfrom mto msort misFault mdeep mcoded mlines nl nc nF np ntr nb mbestCost nso nsi nit nsh nsf nss nrc jr16395 jd mnumber mwhose msize misParted gtrc6396 (w6397) (hjd)) si_X12_357 [0, 1] [] sm_0_1 fm_0_1 nd_0_1 rfl rfl (by decide) rfl rfl rfl rfl rfl (Nat.le_of_ble_eq_true rfl) rm_33_32_5 ⟨Nat.le_of_ble_eq_true rfl, Nat.le_of_ble_eq_true rfl⟩ gX12_body_14.2.1 (fun r6398 => Ktu3 fun jr16400 ip16401 gtrc6402 => ?_)
  intro H locs hr6398 hP hD hS
  try dsimp only at hr6398
  refine Kpdr (ws := [(h0, oX12 nw nk mhasKept nt mtaped nr mrowMany mroundOf mroundFrom mouts nm mfromHour mtoHour ns mfrom mto msort misFault mdeep mcoded mlines nl nc nF np ntr nb mbestCost nso nsi nit nsh nsf nss nrc (nI jr16400) (nI jd) mnumber mwhose msize ip16401), (nrc, iA G 30 gtrc6402)]) hP hD (fun hP hD => ?_)
  obtain ⟨hr6398, w6403⟩ := hr6398
  refine lv_iconst (v := 2) hx hb gX12_body_14.2.2.1 (by decide) ?_
  refine lv_imul hx hb gX12_body_14.2.2.2.1 ?_
  refine toQ hQ0 ?_
  exact RI (v := r6398 * 2) hC hP hD hS [0, 1] (jr16400, ip16401, gtrc6402) rfl rfl (by decide) (⟨trivial, by omega⟩) rfl gX12_body_14.2.2.2.2.1
def K_m_from52 (l : Launch) (G : GG) (h0 : Nat) (xx : Int32) (nw : Nat) (nk : Nat) (mhasKept : Int32) (nt : Nat) (mtaped : Int32) (nr : Nat) (mrowMany : Int32) (mroundOf : Int32) (mroundFrom : Int32) (mouts : Int32) (nm : Nat) (mfromHour : Int32) (mtoHour : Int32) (ns : Nat) (mfrom : Int32) (mto : Int32) (msort : Int32) (misFault : Int32) (mdeep : Int32) (mcoded : Int32) (mlines : Int32) (nl : Nat) (nc : Nat) (nF : Nat) (np : Nat) (ntr : Nat) (nb : Nat) (mbestCost : Int32) (nso : Nat) (nsi : Nat) (nit : Nat) (nsh : Nat) (nsf : Nat) (nss : Nat) (nrc : Nat) (jr : Nat) (jd : Nat) (mnumber : Int32) (mwhose : Int32) (msize : Int32) (misParted : Int32) (fnrc : Nat → Int32) : Prop := MI l G yX12_bodyFrom cX12_bodyFrom 5 (some .int) 34 0 0 [.ref h0, .int 5, .int 2, .int xx] [(h0, oX12 nw nk mhasKept nt mtaped nr mrowMany mroundOf mroundFrom mouts nm mfromHour mtoHour ns mfrom mto msort misFault mdeep mcoded mlines nl nc nF np ntr nb mbestCost nso nsi nit nsh nsf nss nrc (nI jr) (nI jd) mnumber mwhose msize misParted), (nrc, iA G 30 fnrc)] (fun (r : Int32) (u : Nat × Int32 × (Nat → Int32)) => (True) ∧ (u.1 ≤ 30)) (fun u : Nat × Int32 × (Nat → Int32) => [(h0, oX12 nw nk mhasKept nt mtaped nr mrowMany mroundOf mroundFrom mouts nm mfromHour mtoHour ns mfrom mto msort misFault mdeep mcoded mlines nl nc nF np ntr nb mbestCost nso nsi nit nsh nsf nss nrc (nI u.1) (nI jd) mnumber mwhose msize u.2.1), (nrc, iA G 30 u.2.2)])
set_option maxHeartbeats 4000000 in
set_option maxRecDepth 100000 in
theorem m_from52 (l : Launch) (G : GG) (h0 : Nat) (xx : Int32) (nw : Nat) (nk : Nat) (mhasKept : Int32) (nt : Nat) (mtaped : Int32) (nr : Nat) (mrowMany : Int32) (mroundOf : Int32) (mroundFrom : Int32) (mouts : Int32) (nm : Nat) (mfromHour : Int32) (mtoHour : Int32) (ns : Nat) (mfrom : Int32) (mto : Int32) (msort : Int32) (misFault : Int32) (mdeep : Int32) (mcoded : Int32) (mlines : Int32) (nl : Nat) (nc : Nat) (nF : Nat) (np : Nat) (ntr : Nat) (nb : Nat) (mbestCost : Int32) (nso : Nat) (nsi : Nat) (nit : Nat) (nsh : Nat) (nsf : Nat) (nss : Nat) (nrc : Nat) (jr : Nat) (jd : Nat) (mnumber : Int32) (mwhose : Int32) (msize : Int32) (misParted : Int32) (fnrc : Nat → Int32) (hjr : jr ≤ 30) (hjd : jd < 7) : K_m_from52 l G h0 xx nw nk mhasKept nt mtaped nr mrowMany mroundOf mroundFrom mouts nm mfromHour mtoHour ns mfrom mto msort misFault mdeep mcoded mlines nl nc nF np ntr nb mbestCost nso nsi nit nsh nsf nss nrc jr jd mnumber mwhose msize misParted fnrc := by
  refine MI.start (by decide +kernel) (Nat.le_of_ble_eq_true rfl) ?_
  intro p e s m below meth c A ls hC hK hP hD hS hA hl
  refine absQ (fun Q0 hQ0 => ?_)
  have hl : lv_has ls 5 [(0, .ref h0), (1, .int 5), (2, .int 2), (3, .int xx)] := hl
  refine Kan8 hC (fun hx hb hr hml hB hown hlocks hnm => ?_)
  refine lv_iload_n hx hb gX12_bodyFrom_0.1 rfl (lv_at1 hl) ?_
  refine lv_istore (lv' := [(4, .int 5), (0, .ref h0), (1, .int 5), (2, .int 2), (3, .int xx)]) hx hb gX12_bodyFrom_0.2.1 hl (by decide) rfl (fun ls hl => ?_)
  refine lv_iload hx hb gX12_bodyFrom_0.2.2.1 (lv_at0 hl) ?_
  refine lv_iload_n hx hb gX12_bodyFrom_0.2.2.2.1 rfl (lv_at3 hl) ?_
  refine pS hC hK hl (m_hasOwn52 l G) si_X12_360 rfl rfl (Nat.le_of_ble_eq_true rfl) rm_34_1_2 ⟨by first | exact Nat.le_of_ble_eq_true rfl | exact Nat.zero_le _, by first | exact Nat.le_of_ble_eq_true rfl | exact Nat.zero_le _⟩ gX12_bodyFrom_0.2.2.2.2.1 (Keqr ?_)
  refine lv_if_ne (tgt := 22) hx hb gX12_bodyFrom_0.2.2.2.2.2.1 (by decide) (fun _ => ?_) (fun c9 => absurd c9 (by decide))
  refine lv_aload_n hx hb gX12_bodyFrom_1.1 rfl (lv_at1 hl) ?_
  refine lv_iload hx hb gX12_bodyFrom_1.2.1 (lv_at0 hl) ?_
  refine lv_iload_n hx hb gX12_bodyFrom_1.2.2.1 rfl (lv_at3 hl) ?_
  refine lv_iload_n hx hb gX12_bodyFrom_1.2.2.2.1 rfl (lv_at4 hl) ?_
  refine iV (wr := []) hC hK hl hP hD hS hA (m_body52 l G h0 xx nw nk mhasKept nt mtaped nr mrowMany mroundOf mroundFrom mouts nm mfromHour mtoHour ns mfrom mto msort misFault mdeep mcoded mlines nl nc nF np ntr nb mbestCost nso nsi nit nsh nsf nss nrc jr jd mnumber mwhose msize misParted fnrc (hjr) (hjd)) si_X12_363 [0, 1] [] sm_0_1 fm_0_1 nd_0_1 rfl rfl (by decide) rfl rfl rfl rfl rfl (Nat.le_of_ble_eq_true rfl) rm_34_33_6 ⟨Nat.le_of_ble_eq_true rfl, Nat.le_of_ble_eq_true rfl⟩ gX12_bodyFrom_1.2.2.2.2.1 (fun r6406 => Ktu3 fun jr16408 ip16409 gtrc6410 => ?_)
  intro H locs hr6406 hP hD hS
  try dsimp only at hr6406
  refine Kpdr (ws := [(h0, oX12 nw nk mhasKept nt mtaped nr mrowMany mroundOf mroundFrom mouts nm mfromHour mtoHour ns mfrom mto msort misFault mdeep mcoded mlines nl nc nF np ntr nb mbestCost nso nsi nit nsh nsf nss nrc (nI jr16408) (nI jd) mnumber mwhose msize ip16409), (nrc, iA G 30 gtrc6410)]) hP hD (fun hP hD => ?_)
  obtain ⟨hr6406, w6411⟩ := hr6406
  refine toQ hQ0 ?_
  exact RI (v := r6406) hC hP hD hS [0, 1] (jr16408, ip16409, gtrc6410) rfl rfl (by decide) (⟨trivial, by omega⟩) rfl gX12_bodyFrom_1.2.2.2.2.2
def K_m_from12 (l : Launch) (G : GG) (h0 : Nat) (xx : Int32) (nw : Nat) (nk : Nat) (mhasKept : Int32) (nt : Nat) (mtaped : Int32) (nr : Nat) (mrowMany : Int32) (mroundOf : Int32) (mroundFrom : Int32) (mouts : Int32) (nm : Nat) (mfromHour : Int32) (mtoHour : Int32) (ns : Nat) (mfrom : Int32) (mto : Int32) (msort : Int32) (misFault : Int32) (mdeep : Int32) (mcoded : Int32) (mlines : Int32) (nl : Nat) (nc : Nat) (nF : Nat) (np : Nat) (ntr : Nat) (nb : Nat) (mbestCost : Int32) (nso : Nat) (nsi : Nat) (nit : Nat) (nsh : Nat) (nsf : Nat) (nss : Nat) (nrc : Nat) (jr : Nat) (jd : Nat) (mnumber : Int32) (mwhose : Int32) (msize : Int32) (misParted : Int32) (fnrc : Nat → Int32) : Prop := MI l G yX12_bodyFrom cX12_bodyFrom 5 (some .int) 36 0 0 [.ref h0, .int 1, .int 2, .int xx] [(h0, oX12 nw nk mhasKept nt mtaped nr mrowMany mroundOf mroundFrom mouts nm mfromHour mtoHour ns mfrom mto msort misFault mdeep mcoded mlines nl nc nF np ntr nb mbestCost nso nsi nit nsh nsf nss nrc (nI jr) (nI jd) mnumber mwhose msize misParted), (nrc, iA G 30 fnrc)] (fun (r : Int32) (u : Nat × Int32 × (Nat → Int32)) => (True) ∧ (u.1 ≤ 30)) (fun u : Nat × Int32 × (Nat → Int32) => [(h0, oX12 nw nk mhasKept nt mtaped nr mrowMany mroundOf mroundFrom mouts nm mfromHour mtoHour ns mfrom mto msort misFault mdeep mcoded mlines nl nc nF np ntr nb mbestCost nso nsi nit nsh nsf nss nrc (nI u.1) (nI jd) mnumber mwhose msize u.2.1), (nrc, iA G 30 u.2.2)])
set_option maxHeartbeats 4000000 in
set_option maxRecDepth 100000 in
theorem m_from12 (l : Launch) (G : GG) (h0 : Nat) (xx : Int32) (nw : Nat) (nk : Nat) (mhasKept : Int32) (nt : Nat) (mtaped : Int32) (nr : Nat) (mrowMany : Int32) (mroundOf : Int32) (mroundFrom : Int32) (mouts : Int32) (nm : Nat) (mfromHour : Int32) (mtoHour : Int32) (ns : Nat) (mfrom : Int32) (mto : Int32) (msort : Int32) (misFault : Int32) (mdeep : Int32) (mcoded : Int32) (mlines : Int32) (nl : Nat) (nc : Nat) (nF : Nat) (np : Nat) (ntr : Nat) (nb : Nat) (mbestCost : Int32) (nso : Nat) (nsi : Nat) (nit : Nat) (nsh : Nat) (nsf : Nat) (nss : Nat) (nrc : Nat) (jr : Nat) (jd : Nat) (mnumber : Int32) (mwhose : Int32) (msize : Int32) (misParted : Int32) (fnrc : Nat → Int32) (hjr : jr ≤ 30) (hjd : jd < 7) : K_m_from12 l G h0 xx nw nk mhasKept nt mtaped nr mrowMany mroundOf mroundFrom mouts nm mfromHour mtoHour ns mfrom mto msort misFault mdeep mcoded mlines nl nc nF np ntr nb mbestCost nso nsi nit nsh nsf nss nrc jr jd mnumber mwhose msize misParted fnrc := by
  refine MI.start (by decide +kernel) (Nat.le_of_ble_eq_true rfl) ?_
  intro p e s m below meth c A ls hC hK hP hD hS hA hl
  refine absQ (fun Q0 hQ0 => ?_)
  have hl : lv_has ls 5 [(0, .ref h0), (1, .int 1), (2, .int 2), (3, .int xx)] := hl
  refine Kan8 hC (fun hx hb hr hml hB hown hlocks hnm => ?_)
  refine lv_iload_n hx hb gX12_bodyFrom_0.1 rfl (lv_at1 hl) ?_
  refine lv_istore (lv' := [(4, .int 1), (0, .ref h0), (1, .int 1), (2, .int 2), (3, .int xx)]) hx hb gX12_bodyFrom_0.2.1 hl (by decide) rfl (fun ls hl => ?_)
  refine lv_iload hx hb gX12_bodyFrom_0.2.2.1 (lv_at0 hl) ?_
  refine lv_iload_n hx hb gX12_bodyFrom_0.2.2.2.1 rfl (lv_at3 hl) ?_
  refine pS hC hK hl (m_hasOwn12 l G) si_X12_360 rfl rfl (Nat.le_of_ble_eq_true rfl) rm_36_1_2 ⟨by first | exact Nat.le_of_ble_eq_true rfl | exact Nat.zero_le _, by first | exact Nat.le_of_ble_eq_true rfl | exact Nat.zero_le _⟩ gX12_bodyFrom_0.2.2.2.2.1 (Keqr ?_)
  refine lv_if_ne (tgt := 22) hx hb gX12_bodyFrom_0.2.2.2.2.2.1 (by decide) (fun c9 => absurd (by decide) c9) (fun _ => ?_)
  refine lv_iload hx hb gX12_bodyFrom_0.2.2.2.2.2.2.1 (lv_at0 hl) ?_
  refine pS hC hK hl (m_above1 l G) si_X12_348 rfl rfl (Nat.le_of_ble_eq_true rfl) rm_36_1_1 ⟨by first | exact Nat.le_of_ble_eq_true rfl | exact Nat.zero_le _, by first | exact Nat.le_of_ble_eq_true rfl | exact Nat.zero_le _⟩ gX12_bodyFrom_0.2.2.2.2.2.2.2.1 (Keqr ?_)
  refine lv_istore (lv' := [(4, .int 0), (0, .ref h0), (1, .int 1), (2, .int 2), (3, .int xx)]) hx hb gX12_bodyFrom_0.2.2.2.2.2.2.2.2.1 hl (by decide) rfl (fun ls hl => ?_)
  refine lv_goto (tgt := 3) hx hb gX12_bodyFrom_0.2.2.2.2.2.2.2.2.2 (by decide) ?_
  refine lv_iload hx hb gX12_bodyFrom_0.2.2.1 (lv_at0 hl) ?_
  refine lv_iload_n hx hb gX12_bodyFrom_0.2.2.2.1 rfl (lv_at3 hl) ?_
  refine pS hC hK hl (m_hasOwn02 l G) si_X12_360 rfl rfl (Nat.le_of_ble_eq_true rfl) rm_36_1_2 ⟨by first | exact Nat.le_of_ble_eq_true rfl | exact Nat.zero_le _, by first | exact Nat.le_of_ble_eq_true rfl | exact Nat.zero_le _⟩ gX12_bodyFrom_0.2.2.2.2.1 (Keqr ?_)
  refine lv_if_ne (tgt := 22) hx hb gX12_bodyFrom_0.2.2.2.2.2.1 (by decide) (fun _ => ?_) (fun c9 => absurd c9 (by decide))
  refine lv_aload_n hx hb gX12_bodyFrom_1.1 rfl (lv_at1 hl) ?_
  refine lv_iload hx hb gX12_bodyFrom_1.2.1 (lv_at0 hl) ?_
  refine lv_iload_n hx hb gX12_bodyFrom_1.2.2.1 rfl (lv_at3 hl) ?_
  refine lv_iload_n hx hb gX12_bodyFrom_1.2.2.2.1 rfl (lv_at4 hl) ?_
  refine iV (wr := []) hC hK hl hP hD hS hA (m_body02 l G h0 xx nw nk mhasKept nt mtaped nr mrowMany mroundOf mroundFrom mouts nm mfromHour mtoHour ns mfrom mto msort misFault mdeep mcoded mlines nl nc nF np ntr nb mbestCost nso nsi nit nsh nsf nss nrc jr jd mnumber mwhose msize misParted fnrc (hjr) (hjd)) si_X12_363 [0, 1] [] sm_0_1 fm_0_1 nd_0_1 rfl rfl (by decide) rfl rfl rfl rfl rfl (Nat.le_of_ble_eq_true rfl) rm_36_27_6 ⟨Nat.le_of_ble_eq_true rfl, Nat.le_of_ble_eq_true rfl⟩ gX12_bodyFrom_1.2.2.2.2.1 (fun r6418 => Ktu3 fun jr16420 ip16421 gtrc6422 => ?_)
  intro H locs hr6418 hP hD hS
  try dsimp only at hr6418
  refine Kpdr (ws := [(h0, oX12 nw nk mhasKept nt mtaped nr mrowMany mroundOf mroundFrom mouts nm mfromHour mtoHour ns mfrom mto msort misFault mdeep mcoded mlines nl nc nF np ntr nb mbestCost nso nsi nit nsh nsf nss nrc (nI jr16420) (nI jd) mnumber mwhose msize ip16421), (nrc, iA G 30 gtrc6422)]) hP hD (fun hP hD => ?_)
  obtain ⟨hr6418, w6423⟩ := hr6418
  refine toQ hQ0 ?_
  exact RI (v := r6418) hC hP hD hS [0, 1] (jr16420, ip16421, gtrc6422) rfl rfl (by decide) (⟨trivial, by omega⟩) rfl gX12_bodyFrom_1.2.2.2.2.2
def K_m_from32 (l : Launch) (G : GG) (h0 : Nat) (xx : Int32) (nw : Nat) (nk : Nat) (mhasKept : Int32) (nt : Nat) (mtaped : Int32) (nr : Nat) (mrowMany : Int32) (mroundOf : Int32) (mroundFrom : Int32) (mouts : Int32) (nm : Nat) (mfromHour : Int32) (mtoHour : Int32) (ns : Nat) (mfrom : Int32) (mto : Int32) (msort : Int32) (misFault : Int32) (mdeep : Int32) (mcoded : Int32) (mlines : Int32) (nl : Nat) (nc : Nat) (nF : Nat) (np : Nat) (ntr : Nat) (nb : Nat) (mbestCost : Int32) (nso : Nat) (nsi : Nat) (nit : Nat) (nsh : Nat) (nsf : Nat) (nss : Nat) (nrc : Nat) (jr : Nat) (jd : Nat) (mnumber : Int32) (mwhose : Int32) (msize : Int32) (misParted : Int32) (fnrc : Nat → Int32) : Prop := MI l G yX12_bodyFrom cX12_bodyFrom 5 (some .int) 36 0 0 [.ref h0, .int 3, .int 2, .int xx] [(h0, oX12 nw nk mhasKept nt mtaped nr mrowMany mroundOf mroundFrom mouts nm mfromHour mtoHour ns mfrom mto msort misFault mdeep mcoded mlines nl nc nF np ntr nb mbestCost nso nsi nit nsh nsf nss nrc (nI jr) (nI jd) mnumber mwhose msize misParted), (nrc, iA G 30 fnrc)] (fun (r : Int32) (u : Nat × Int32 × (Nat → Int32)) => (True) ∧ (u.1 ≤ 30)) (fun u : Nat × Int32 × (Nat → Int32) => [(h0, oX12 nw nk mhasKept nt mtaped nr mrowMany mroundOf mroundFrom mouts nm mfromHour mtoHour ns mfrom mto msort misFault mdeep mcoded mlines nl nc nF np ntr nb mbestCost nso nsi nit nsh nsf nss nrc (nI u.1) (nI jd) mnumber mwhose msize u.2.1), (nrc, iA G 30 u.2.2)])
set_option maxHeartbeats 4000000 in
set_option maxRecDepth 100000 in
theorem m_from32 (l : Launch) (G : GG) (h0 : Nat) (xx : Int32) (nw : Nat) (nk : Nat) (mhasKept : Int32) (nt : Nat) (mtaped : Int32) (nr : Nat) (mrowMany : Int32) (mroundOf : Int32) (mroundFrom : Int32) (mouts : Int32) (nm : Nat) (mfromHour : Int32) (mtoHour : Int32) (ns : Nat) (mfrom : Int32) (mto : Int32) (msort : Int32) (misFault : Int32) (mdeep : Int32) (mcoded : Int32) (mlines : Int32) (nl : Nat) (nc : Nat) (nF : Nat) (np : Nat) (ntr : Nat) (nb : Nat) (mbestCost : Int32) (nso : Nat) (nsi : Nat) (nit : Nat) (nsh : Nat) (nsf : Nat) (nss : Nat) (nrc : Nat) (jr : Nat) (jd : Nat) (mnumber : Int32) (mwhose : Int32) (msize : Int32) (misParted : Int32) (fnrc : Nat → Int32) (hjr : jr ≤ 30) (hjd : jd < 7) : K_m_from32 l G h0 xx nw nk mhasKept nt mtaped nr mrowMany mroundOf mroundFrom mouts nm mfromHour mtoHour ns mfrom mto msort misFault mdeep mcoded mlines nl nc nF np ntr nb mbestCost nso nsi nit nsh nsf nss nrc jr jd mnumber mwhose msize misParted fnrc := by
  refine MI.start (by decide +kernel) (Nat.le_of_ble_eq_true rfl) ?_
  intro p e s m below meth c A ls hC hK hP hD hS hA hl
  refine absQ (fun Q0 hQ0 => ?_)
  have hl : lv_has ls 5 [(0, .ref h0), (1, .int 3), (2, .int 2), (3, .int xx)] := hl
  refine Kan8 hC (fun hx hb hr hml hB hown hlocks hnm => ?_)
  refine lv_iload_n hx hb gX12_bodyFrom_0.1 rfl (lv_at1 hl) ?_
  refine lv_istore (lv' := [(4, .int 3), (0, .ref h0), (1, .int 3), (2, .int 2), (3, .int xx)]) hx hb gX12_bodyFrom_0.2.1 hl (by decide) rfl (fun ls hl => ?_)
  refine lv_iload hx hb gX12_bodyFrom_0.2.2.1 (lv_at0 hl) ?_
  refine lv_iload_n hx hb gX12_bodyFrom_0.2.2.2.1 rfl (lv_at3 hl) ?_
  refine pS hC hK hl (m_hasOwn32 l G) si_X12_360 rfl rfl (Nat.le_of_ble_eq_true rfl) rm_36_1_2 ⟨by first | exact Nat.le_of_ble_eq_true rfl | exact Nat.zero_le _, by first | exact Nat.le_of_ble_eq_true rfl | exact Nat.zero_le _⟩ gX12_bodyFrom_0.2.2.2.2.1 (Keqr ?_)
  refine lv_if_ne (tgt := 22) hx hb gX12_bodyFrom_0.2.2.2.2.2.1 (by decide) (fun c9 => absurd (by decide) c9) (fun _ => ?_)
  refine lv_iload hx hb gX12_bodyFrom_0.2.2.2.2.2.2.1 (lv_at0 hl) ?_
  refine pS hC hK hl (m_above3 l G) si_X12_348 rfl rfl (Nat.le_of_ble_eq_true rfl) rm_36_1_1 ⟨by first | exact Nat.le_of_ble_eq_true rfl | exact Nat.zero_le _, by first | exact Nat.le_of_ble_eq_true rfl | exact Nat.zero_le _⟩ gX12_bodyFrom_0.2.2.2.2.2.2.2.1 (Keqr ?_)
  refine lv_istore (lv' := [(4, .int 1), (0, .ref h0), (1, .int 3), (2, .int 2), (3, .int xx)]) hx hb gX12_bodyFrom_0.2.2.2.2.2.2.2.2.1 hl (by decide) rfl (fun ls hl => ?_)
  refine lv_goto (tgt := 3) hx hb gX12_bodyFrom_0.2.2.2.2.2.2.2.2.2 (by decide) ?_
  refine lv_iload hx hb gX12_bodyFrom_0.2.2.1 (lv_at0 hl) ?_
  refine lv_iload_n hx hb gX12_bodyFrom_0.2.2.2.1 rfl (lv_at3 hl) ?_
  refine pS hC hK hl (m_hasOwn12 l G) si_X12_360 rfl rfl (Nat.le_of_ble_eq_true rfl) rm_36_1_2 ⟨by first | exact Nat.le_of_ble_eq_true rfl | exact Nat.zero_le _, by first | exact Nat.le_of_ble_eq_true rfl | exact Nat.zero_le _⟩ gX12_bodyFrom_0.2.2.2.2.1 (Keqr ?_)
  refine lv_if_ne (tgt := 22) hx hb gX12_bodyFrom_0.2.2.2.2.2.1 (by decide) (fun c9 => absurd (by decide) c9) (fun _ => ?_)
  refine lv_iload hx hb gX12_bodyFrom_0.2.2.2.2.2.2.1 (lv_at0 hl) ?_
  refine pS hC hK hl (m_above1 l G) si_X12_348 rfl rfl (Nat.le_of_ble_eq_true rfl) rm_36_1_1 ⟨by first | exact Nat.le_of_ble_eq_true rfl | exact Nat.zero_le _, by first | exact Nat.le_of_ble_eq_true rfl | exact Nat.zero_le _⟩ gX12_bodyFrom_0.2.2.2.2.2.2.2.1 (Keqr ?_)
  refine lv_istore (lv' := [(4, .int 0), (0, .ref h0), (1, .int 3), (2, .int 2), (3, .int xx)]) hx hb gX12_bodyFrom_0.2.2.2.2.2.2.2.2.1 hl (by decide) rfl (fun ls hl => ?_)
  refine lv_goto (tgt := 3) hx hb gX12_bodyFrom_0.2.2.2.2.2.2.2.2.2 (by decide) ?_
  refine lv_iload hx hb gX12_bodyFrom_0.2.2.1 (lv_at0 hl) ?_
  refine lv_iload_n hx hb gX12_bodyFrom_0.2.2.2.1 rfl (lv_at3 hl) ?_
  refine pS hC hK hl (m_hasOwn02 l G) si_X12_360 rfl rfl (Nat.le_of_ble_eq_true rfl) rm_36_1_2 ⟨by first | exact Nat.le_of_ble_eq_true rfl | exact Nat.zero_le _, by first | exact Nat.le_of_ble_eq_true rfl | exact Nat.zero_le _⟩ gX12_bodyFrom_0.2.2.2.2.1 (Keqr ?_)
  refine lv_if_ne (tgt := 22) hx hb gX12_bodyFrom_0.2.2.2.2.2.1 (by decide) (fun _ => ?_) (fun c9 => absurd c9 (by decide))
  refine lv_aload_n hx hb gX12_bodyFrom_1.1 rfl (lv_at1 hl) ?_
  refine lv_iload hx hb gX12_bodyFrom_1.2.1 (lv_at0 hl) ?_
  refine lv_iload_n hx hb gX12_bodyFrom_1.2.2.1 rfl (lv_at3 hl) ?_
  refine lv_iload_n hx hb gX12_bodyFrom_1.2.2.2.1 rfl (lv_at4 hl) ?_
  refine iV (wr := []) hC hK hl hP hD hS hA (m_body02 l G h0 xx nw nk mhasKept nt mtaped nr mrowMany mroundOf mroundFrom mouts nm mfromHour mtoHour ns mfrom mto msort misFault mdeep mcoded mlines nl nc nF np ntr nb mbestCost nso nsi nit nsh nsf nss nrc jr jd mnumber mwhose msize misParted fnrc (hjr) (hjd)) si_X12_363 [0, 1] [] sm_0_1 fm_0_1 nd_0_1 rfl rfl (by decide) rfl rfl rfl rfl rfl (Nat.le_of_ble_eq_true rfl) rm_36_27_6 ⟨Nat.le_of_ble_eq_true rfl, Nat.le_of_ble_eq_true rfl⟩ gX12_bodyFrom_1.2.2.2.2.1 (fun r6434 => Ktu3 fun jr16436 ip16437 gtrc6438 => ?_)
  intro H locs hr6434 hP hD hS
  try dsimp only at hr6434
  refine Kpdr (ws := [(h0, oX12 nw nk mhasKept nt mtaped nr mrowMany mroundOf mroundFrom mouts nm mfromHour mtoHour ns mfrom mto msort misFault mdeep mcoded mlines nl nc nF np ntr nb mbestCost nso nsi nit nsh nsf nss nrc (nI jr16436) (nI jd) mnumber mwhose msize ip16437), (nrc, iA G 30 gtrc6438)]) hP hD (fun hP hD => ?_)
  obtain ⟨hr6434, w6439⟩ := hr6434
  refine toQ hQ0 ?_
  exact RI (v := r6434) hC hP hD hS [0, 1] (jr16436, ip16437, gtrc6438) rfl rfl (by decide) (⟨trivial, by omega⟩) rfl gX12_bodyFrom_1.2.2.2.2.2
def K_m_from62 (l : Launch) (G : GG) (h0 : Nat) (xx : Int32) (nw : Nat) (nk : Nat) (mhasKept : Int32) (nt : Nat) (mtaped : Int32) (nr : Nat) (mrowMany : Int32) (mroundOf : Int32) (mroundFrom : Int32) (mouts : Int32) (nm : Nat) (mfromHour : Int32) (mtoHour : Int32) (ns : Nat) (mfrom : Int32) (mto : Int32) (msort : Int32) (misFault : Int32) (mdeep : Int32) (mcoded : Int32) (mlines : Int32) (nl : Nat) (nc : Nat) (nF : Nat) (np : Nat) (ntr : Nat) (nb : Nat) (mbestCost : Int32) (nso : Nat) (nsi : Nat) (nit : Nat) (nsh : Nat) (nsf : Nat) (nss : Nat) (nrc : Nat) (jr : Nat) (jd : Nat) (mnumber : Int32) (mwhose : Int32) (msize : Int32) (misParted : Int32) (fnrc : Nat → Int32) : Prop := MI l G yX12_bodyFrom cX12_bodyFrom 5 (some .int) 36 0 0 [.ref h0, .int 6, .int 2, .int xx] [(h0, oX12 nw nk mhasKept nt mtaped nr mrowMany mroundOf mroundFrom mouts nm mfromHour mtoHour ns mfrom mto msort misFault mdeep mcoded mlines nl nc nF np ntr nb mbestCost nso nsi nit nsh nsf nss nrc (nI jr) (nI jd) mnumber mwhose msize misParted), (nrc, iA G 30 fnrc)] (fun (r : Int32) (u : Nat × Int32 × (Nat → Int32)) => (True) ∧ (u.1 ≤ 30)) (fun u : Nat × Int32 × (Nat → Int32) => [(h0, oX12 nw nk mhasKept nt mtaped nr mrowMany mroundOf mroundFrom mouts nm mfromHour mtoHour ns mfrom mto msort misFault mdeep mcoded mlines nl nc nF np ntr nb mbestCost nso nsi nit nsh nsf nss nrc (nI u.1) (nI jd) mnumber mwhose msize u.2.1), (nrc, iA G 30 u.2.2)])
set_option maxHeartbeats 4000000 in
set_option maxRecDepth 100000 in
theorem m_from62 (l : Launch) (G : GG) (h0 : Nat) (xx : Int32) (nw : Nat) (nk : Nat) (mhasKept : Int32) (nt : Nat) (mtaped : Int32) (nr : Nat) (mrowMany : Int32) (mroundOf : Int32) (mroundFrom : Int32) (mouts : Int32) (nm : Nat) (mfromHour : Int32) (mtoHour : Int32) (ns : Nat) (mfrom : Int32) (mto : Int32) (msort : Int32) (misFault : Int32) (mdeep : Int32) (mcoded : Int32) (mlines : Int32) (nl : Nat) (nc : Nat) (nF : Nat) (np : Nat) (ntr : Nat) (nb : Nat) (mbestCost : Int32) (nso : Nat) (nsi : Nat) (nit : Nat) (nsh : Nat) (nsf : Nat) (nss : Nat) (nrc : Nat) (jr : Nat) (jd : Nat) (mnumber : Int32) (mwhose : Int32) (msize : Int32) (misParted : Int32) (fnrc : Nat → Int32) (hjr : jr ≤ 30) (hjd : jd < 7) : K_m_from62 l G h0 xx nw nk mhasKept nt mtaped nr mrowMany mroundOf mroundFrom mouts nm mfromHour mtoHour ns mfrom mto msort misFault mdeep mcoded mlines nl nc nF np ntr nb mbestCost nso nsi nit nsh nsf nss nrc jr jd mnumber mwhose msize misParted fnrc := by
  refine MI.start (by decide +kernel) (Nat.le_of_ble_eq_true rfl) ?_
  intro p e s m below meth c A ls hC hK hP hD hS hA hl
  refine absQ (fun Q0 hQ0 => ?_)
  have hl : lv_has ls 5 [(0, .ref h0), (1, .int 6), (2, .int 2), (3, .int xx)] := hl
  refine Kan8 hC (fun hx hb hr hml hB hown hlocks hnm => ?_)
  refine lv_iload_n hx hb gX12_bodyFrom_0.1 rfl (lv_at1 hl) ?_
  refine lv_istore (lv' := [(4, .int 6), (0, .ref h0), (1, .int 6), (2, .int 2), (3, .int xx)]) hx hb gX12_bodyFrom_0.2.1 hl (by decide) rfl (fun ls hl => ?_)
  refine lv_iload hx hb gX12_bodyFrom_0.2.2.1 (lv_at0 hl) ?_
  refine lv_iload_n hx hb gX12_bodyFrom_0.2.2.2.1 rfl (lv_at3 hl) ?_
  refine pS hC hK hl (m_hasOwn62 l G) si_X12_360 rfl rfl (Nat.le_of_ble_eq_true rfl) rm_36_1_2 ⟨by first | exact Nat.le_of_ble_eq_true rfl | exact Nat.zero_le _, by first | exact Nat.le_of_ble_eq_true rfl | exact Nat.zero_le _⟩ gX12_bodyFrom_0.2.2.2.2.1 (Keqr ?_)
  refine lv_if_ne (tgt := 22) hx hb gX12_bodyFrom_0.2.2.2.2.2.1 (by decide) (fun c9 => absurd (by decide) c9) (fun _ => ?_)
  refine lv_iload hx hb gX12_bodyFrom_0.2.2.2.2.2.2.1 (lv_at0 hl) ?_
  refine pS hC hK hl (m_above6 l G) si_X12_348 rfl rfl (Nat.le_of_ble_eq_true rfl) rm_36_1_1 ⟨by first | exact Nat.le_of_ble_eq_true rfl | exact Nat.zero_le _, by first | exact Nat.le_of_ble_eq_true rfl | exact Nat.zero_le _⟩ gX12_bodyFrom_0.2.2.2.2.2.2.2.1 (Keqr ?_)
  refine lv_istore (lv' := [(4, .int 0), (0, .ref h0), (1, .int 6), (2, .int 2), (3, .int xx)]) hx hb gX12_bodyFrom_0.2.2.2.2.2.2.2.2.1 hl (by decide) rfl (fun ls hl => ?_)
  refine lv_goto (tgt := 3) hx hb gX12_bodyFrom_0.2.2.2.2.2.2.2.2.2 (by decide) ?_
  refine lv_iload hx hb gX12_bodyFrom_0.2.2.1 (lv_at0 hl) ?_
  refine lv_iload_n hx hb gX12_bodyFrom_0.2.2.2.1 rfl (lv_at3 hl) ?_
  refine pS hC hK hl (m_hasOwn02 l G) si_X12_360 rfl rfl (Nat.le_of_ble_eq_true rfl) rm_36_1_2 ⟨by first | exact Nat.le_of_ble_eq_true rfl | exact Nat.zero_le _, by first | exact Nat.le_of_ble_eq_true rfl | exact Nat.zero_le _⟩ gX12_bodyFrom_0.2.2.2.2.1 (Keqr ?_)
  refine lv_if_ne (tgt := 22) hx hb gX12_bodyFrom_0.2.2.2.2.2.1 (by decide) (fun _ => ?_) (fun c9 => absurd c9 (by decide))
  refine lv_aload_n hx hb gX12_bodyFrom_1.1 rfl (lv_at1 hl) ?_
  refine lv_iload hx hb gX12_bodyFrom_1.2.1 (lv_at0 hl) ?_
  refine lv_iload_n hx hb gX12_bodyFrom_1.2.2.1 rfl (lv_at3 hl) ?_
  refine lv_iload_n hx hb gX12_bodyFrom_1.2.2.2.1 rfl (lv_at4 hl) ?_
  refine iV (wr := []) hC hK hl hP hD hS hA (m_body02 l G h0 xx nw nk mhasKept nt mtaped nr mrowMany mroundOf mroundFrom mouts nm mfromHour mtoHour ns mfrom mto msort misFault mdeep mcoded mlines nl nc nF np ntr nb mbestCost nso nsi nit nsh nsf nss nrc jr jd mnumber mwhose msize misParted fnrc (hjr) (hjd)) si_X12_363 [0, 1] [] sm_0_1 fm_0_1 nd_0_1 rfl rfl (by decide) rfl rfl rfl rfl rfl (Nat.le_of_ble_eq_true rfl) rm_36_27_6 ⟨Nat.le_of_ble_eq_true rfl, Nat.le_of_ble_eq_true rfl⟩ gX12_bodyFrom_1.2.2.2.2.1 (fun r6446 => Ktu3 fun jr16448 ip16449 gtrc6450 => ?_)
  intro H locs hr6446 hP hD hS
  try dsimp only at hr6446
  refine Kpdr (ws := [(h0, oX12 nw nk mhasKept nt mtaped nr mrowMany mroundOf mroundFrom mouts nm mfromHour mtoHour ns mfrom mto msort misFault mdeep mcoded mlines nl nc nF np ntr nb mbestCost nso nsi nit nsh nsf nss nrc (nI jr16448) (nI jd) mnumber mwhose msize ip16449), (nrc, iA G 30 gtrc6450)]) hP hD (fun hP hD => ?_)
  obtain ⟨hr6446, w6451⟩ := hr6446
  refine toQ hQ0 ?_
  exact RI (v := r6446) hC hP hD hS [0, 1] (jr16448, ip16449, gtrc6450) rfl rfl (by decide) (⟨trivial, by omega⟩) rfl gX12_bodyFrom_1.2.2.2.2.2
def K_m_dealt2 (l : Launch) (G : GG) (h0 : Nat) (xx : Int32) (nw : Nat) (nk : Nat) (mhasKept : Int32) (nt : Nat) (mtaped : Int32) (nr : Nat) (mrowMany : Int32) (mroundOf : Int32) (mroundFrom : Int32) (mouts : Int32) (nm : Nat) (mfromHour : Int32) (mtoHour : Int32) (ns : Nat) (mfrom : Int32) (mto : Int32) (msort : Int32) (misFault : Int32) (mdeep : Int32) (mcoded : Int32) (mlines : Int32) (nl : Nat) (nc : Nat) (nF : Nat) (np : Nat) (ntr : Nat) (nb : Nat) (mbestCost : Int32) (nso : Nat) (nsi : Nat) (nit : Nat) (nsh : Nat) (nsf : Nat) (nss : Nat) (nrc : Nat) (jr : Nat) (jd : Nat) (mnumber : Int32) (mwhose : Int32) (msize : Int32) (misParted : Int32) (fnrc : Nat → Int32) : Prop := MI l G yX12_dealt cX12_dealt 3 (some .int) 38 0 0 [.ref h0, .int 2, .int xx] [(h0, oX12 nw nk mhasKept nt mtaped nr mrowMany mroundOf mroundFrom mouts nm mfromHour mtoHour ns mfrom mto msort misFault mdeep mcoded mlines nl nc nF np ntr nb mbestCost nso nsi nit nsh nsf nss nrc (nI jr) (nI jd) mnumber mwhose msize misParted), (nrc, iA G 30 fnrc)] (fun (r : Int32) (u : Nat × Int32 × (Nat → Int32)) => (True) ∧ (u.1 ≤ 30)) (fun u : Nat × Int32 × (Nat → Int32) => [(h0, oX12 nw nk mhasKept nt mtaped nr mrowMany mroundOf mroundFrom mouts nm mfromHour mtoHour ns mfrom mto msort misFault mdeep mcoded mlines nl nc nF np ntr nb mbestCost nso nsi nit nsh nsf nss nrc (nI u.1) (nI jd) mnumber mwhose msize u.2.1), (nrc, iA G 30 u.2.2)])
set_option maxHeartbeats 4000000 in
set_option maxRecDepth 100000 in
theorem m_dealt2 (l : Launch) (G : GG) (h0 : Nat) (xx : Int32) (nw : Nat) (nk : Nat) (mhasKept : Int32) (nt : Nat) (mtaped : Int32) (nr : Nat) (mrowMany : Int32) (mroundOf : Int32) (mroundFrom : Int32) (mouts : Int32) (nm : Nat) (mfromHour : Int32) (mtoHour : Int32) (ns : Nat) (mfrom : Int32) (mto : Int32) (msort : Int32) (misFault : Int32) (mdeep : Int32) (mcoded : Int32) (mlines : Int32) (nl : Nat) (nc : Nat) (nF : Nat) (np : Nat) (ntr : Nat) (nb : Nat) (mbestCost : Int32) (nso : Nat) (nsi : Nat) (nit : Nat) (nsh : Nat) (nsf : Nat) (nss : Nat) (nrc : Nat) (jr : Nat) (jd : Nat) (mnumber : Int32) (mwhose : Int32) (msize : Int32) (misParted : Int32) (fnrc : Nat → Int32) (hjr : jr ≤ 30) (hjd : jd < 7) : K_m_dealt2 l G h0 xx nw nk mhasKept nt mtaped nr mrowMany mroundOf mroundFrom mouts nm mfromHour mtoHour ns mfrom mto msort misFault mdeep mcoded mlines nl nc nF np ntr nb mbestCost nso nsi nit nsh nsf nss nrc jr jd mnumber mwhose msize misParted fnrc := by
  refine MI.start (by decide +kernel) (Nat.le_of_ble_eq_true rfl) ?_
  intro p e s m below meth c A ls hC hK hP hD hS hA hl
  refine absQ (fun Q0 hQ0 => ?_)
  have hl : lv_has ls 3 [(0, .ref h0), (1, .int 2), (2, .int xx)] := hl
  refine Kan8 hC (fun hx hb hr hml hB hown hlocks hnm => ?_)
  refine lv_aload_n hx hb gX12_dealt_0.1 rfl (lv_at0 hl) ?_
  refine lv_aload_n hx hb gX12_dealt_0.2.1 rfl (lv_at0 hl) ?_
  refine gf_X12_354 hC rfl hK hP 0 rfl rfl gX12_dealt_0.2.2.1 ?_
  refine lv_iload_n hx hb gX12_dealt_0.2.2.2.1 rfl (lv_at1 hl) ?_
  refine lv_iload_n hx hb gX12_dealt_0.2.2.2.2.1 rfl (lv_at2 hl) ?_
  rcases (show jd = 0 ∨ jd = 1 ∨ jd = 2 ∨ jd = 3 ∨ jd = 4 ∨ jd = 5 ∨ jd = 6 by omega) with rfl | rfl | rfl | rfl | rfl | rfl | rfl
  · refine iV (wr := []) hC hK hl hP hD hS hA (m_from02 l G h0 xx nw nk mhasKept nt mtaped nr mrowMany mroundOf mroundFrom mouts nm mfromHour mtoHour ns mfrom mto msort misFault mdeep mcoded mlines nl nc nF np ntr nb mbestCost nso nsi nit nsh nsf nss nrc jr 0 mnumber mwhose msize misParted fnrc (hjr) (hjd)) si_X12_357 [0, 1] [] sm_0_1 fm_0_1 nd_0_1 rfl rfl (by decide) rfl rfl rfl rfl rfl (Nat.le_of_ble_eq_true rfl) rm_38_28_5 ⟨Nat.le_of_ble_eq_true rfl, Nat.le_of_ble_eq_true rfl⟩ gX12_dealt_0.2.2.2.2.2.1 (fun r6452 => Ktu3 fun jr16454 ip16455 gtrc6456 => ?_)
    intro H locs hr6452 hP hD hS
    try dsimp only at hr6452
    refine Kpdr (ws := [(h0, oX12 nw nk mhasKept nt mtaped nr mrowMany mroundOf mroundFrom mouts nm mfromHour mtoHour ns mfrom mto msort misFault mdeep mcoded mlines nl nc nF np ntr nb mbestCost nso nsi nit nsh nsf nss nrc (nI jr16454) 0 mnumber mwhose msize ip16455), (nrc, iA G 30 gtrc6456)]) hP hD (fun hP hD => ?_)
    obtain ⟨hr6452, w6457⟩ := hr6452
    refine toQ hQ0 ?_
    exact RI (v := r6452) hC hP hD hS [0, 1] (jr16454, ip16455, gtrc6456) rfl rfl (by decide) (⟨trivial, by omega⟩) rfl gX12_dealt_0.2.2.2.2.2.2
  · refine iV (wr := []) hC hK hl hP hD hS hA (m_from12 l G h0 xx nw nk mhasKept nt mtaped nr mrowMany mroundOf mroundFrom mouts nm mfromHour mtoHour ns mfrom mto msort misFault mdeep mcoded mlines nl nc nF np ntr nb mbestCost nso nsi nit nsh nsf nss nrc jr 1 mnumber mwhose msize misParted fnrc (hjr) (hjd)) si_X12_357 [0, 1] [] sm_0_1 fm_0_1 nd_0_1 rfl rfl (by decide) rfl rfl rfl rfl rfl (Nat.le_of_ble_eq_true rfl) rm_38_36_5 ⟨Nat.le_of_ble_eq_true rfl, Nat.le_of_ble_eq_true rfl⟩ gX12_dealt_0.2.2.2.2.2.1 (fun r6458 => Ktu3 fun jr16460 ip16461 gtrc6462 => ?_)
    intro H locs hr6458 hP hD hS
    try dsimp only at hr6458
    refine Kpdr (ws := [(h0, oX12 nw nk mhasKept nt mtaped nr mrowMany mroundOf mroundFrom mouts nm mfromHour mtoHour ns mfrom mto msort misFault mdeep mcoded mlines nl nc nF np ntr nb mbestCost nso nsi nit nsh nsf nss nrc (nI jr16460) 1 mnumber mwhose msize ip16461), (nrc, iA G 30 gtrc6462)]) hP hD (fun hP hD => ?_)
    obtain ⟨hr6458, w6463⟩ := hr6458
    refine toQ hQ0 ?_
    exact RI (v := r6458) hC hP hD hS [0, 1] (jr16460, ip16461, gtrc6462) rfl rfl (by decide) (⟨trivial, by omega⟩) rfl gX12_dealt_0.2.2.2.2.2.2
  · refine iV (wr := []) hC hK hl hP hD hS hA (m_from22 l G h0 xx nw nk mhasKept nt mtaped nr mrowMany mroundOf mroundFrom mouts nm mfromHour mtoHour ns mfrom mto msort misFault mdeep mcoded mlines nl nc nF np ntr nb mbestCost nso nsi nit nsh nsf nss nrc jr 2 mnumber mwhose msize misParted fnrc (hjr) (hjd)) si_X12_357 [0, 1] [] sm_0_1 fm_0_1 nd_0_1 rfl rfl (by decide) rfl rfl rfl rfl rfl (Nat.le_of_ble_eq_true rfl) rm_38_30_5 ⟨Nat.le_of_ble_eq_true rfl, Nat.le_of_ble_eq_true rfl⟩ gX12_dealt_0.2.2.2.2.2.1 (fun r6464 => Ktu3 fun jr16466 ip16467 gtrc6468 => ?_)
    intro H locs hr6464 hP hD hS
    try dsimp only at hr6464
    refine Kpdr (ws := [(h0, oX12 nw nk mhasKept nt mtaped nr mrowMany mroundOf mroundFrom mouts nm mfromHour mtoHour ns mfrom mto msort misFault mdeep mcoded mlines nl nc nF np ntr nb mbestCost nso nsi nit nsh nsf nss nrc (nI jr16466) 2 mnumber mwhose msize ip16467), (nrc, iA G 30 gtrc6468)]) hP hD (fun hP hD => ?_)
    obtain ⟨hr6464, w6469⟩ := hr6464
    refine toQ hQ0 ?_
    exact RI (v := r6464) hC hP hD hS [0, 1] (jr16466, ip16467, gtrc6468) rfl rfl (by decide) (⟨trivial, by omega⟩) rfl gX12_dealt_0.2.2.2.2.2.2
  · refine iV (wr := []) hC hK hl hP hD hS hA (m_from32 l G h0 xx nw nk mhasKept nt mtaped nr mrowMany mroundOf mroundFrom mouts nm mfromHour mtoHour ns mfrom mto msort misFault mdeep mcoded mlines nl nc nF np ntr nb mbestCost nso nsi nit nsh nsf nss nrc jr 3 mnumber mwhose msize misParted fnrc (hjr) (hjd)) si_X12_357 [0, 1] [] sm_0_1 fm_0_1 nd_0_1 rfl rfl (by decide) rfl rfl rfl rfl rfl (Nat.le_of_ble_eq_true rfl) rm_38_36_5 ⟨Nat.le_of_ble_eq_true rfl, Nat.le_of_ble_eq_true rfl⟩ gX12_dealt_0.2.2.2.2.2.1 (fun r6470 => Ktu3 fun jr16472 ip16473 gtrc6474 => ?_)
    intro H locs hr6470 hP hD hS
    try dsimp only at hr6470
    refine Kpdr (ws := [(h0, oX12 nw nk mhasKept nt mtaped nr mrowMany mroundOf mroundFrom mouts nm mfromHour mtoHour ns mfrom mto msort misFault mdeep mcoded mlines nl nc nF np ntr nb mbestCost nso nsi nit nsh nsf nss nrc (nI jr16472) 3 mnumber mwhose msize ip16473), (nrc, iA G 30 gtrc6474)]) hP hD (fun hP hD => ?_)
    obtain ⟨hr6470, w6475⟩ := hr6470
    refine toQ hQ0 ?_
    exact RI (v := r6470) hC hP hD hS [0, 1] (jr16472, ip16473, gtrc6474) rfl rfl (by decide) (⟨trivial, by omega⟩) rfl gX12_dealt_0.2.2.2.2.2.2
  · refine iV (wr := []) hC hK hl hP hD hS hA (m_from42 l G h0 xx nw nk mhasKept nt mtaped nr mrowMany mroundOf mroundFrom mouts nm mfromHour mtoHour ns mfrom mto msort misFault mdeep mcoded mlines nl nc nF np ntr nb mbestCost nso nsi nit nsh nsf nss nrc jr 4 mnumber mwhose msize misParted fnrc (hjr) (hjd)) si_X12_357 [0, 1] [] sm_0_1 fm_0_1 nd_0_1 rfl rfl (by decide) rfl rfl rfl rfl rfl (Nat.le_of_ble_eq_true rfl) rm_38_32_5 ⟨Nat.le_of_ble_eq_true rfl, Nat.le_of_ble_eq_true rfl⟩ gX12_dealt_0.2.2.2.2.2.1 (fun r6476 => Ktu3 fun jr16478 ip16479 gtrc6480 => ?_)
    intro H locs hr6476 hP hD hS
    try dsimp only at hr6476
    refine Kpdr (ws := [(h0, oX12 nw nk mhasKept nt mtaped nr mrowMany mroundOf mroundFrom mouts nm mfromHour mtoHour ns mfrom mto msort misFault mdeep mcoded mlines nl nc nF np ntr nb mbestCost nso nsi nit nsh nsf nss nrc (nI jr16478) 4 mnumber mwhose msize ip16479), (nrc, iA G 30 gtrc6480)]) hP hD (fun hP hD => ?_)
    obtain ⟨hr6476, w6481⟩ := hr6476
    refine toQ hQ0 ?_
    exact RI (v := r6476) hC hP hD hS [0, 1] (jr16478, ip16479, gtrc6480) rfl rfl (by decide) (⟨trivial, by omega⟩) rfl gX12_dealt_0.2.2.2.2.2.2
  · refine iV (wr := []) hC hK hl hP hD hS hA (m_from52 l G h0 xx nw nk mhasKept nt mtaped nr mrowMany mroundOf mroundFrom mouts nm mfromHour mtoHour ns mfrom mto msort misFault mdeep mcoded mlines nl nc nF np ntr nb mbestCost nso nsi nit nsh nsf nss nrc jr 5 mnumber mwhose msize misParted fnrc (hjr) (hjd)) si_X12_357 [0, 1] [] sm_0_1 fm_0_1 nd_0_1 rfl rfl (by decide) rfl rfl rfl rfl rfl (Nat.le_of_ble_eq_true rfl) rm_38_34_5 ⟨Nat.le_of_ble_eq_true rfl, Nat.le_of_ble_eq_true rfl⟩ gX12_dealt_0.2.2.2.2.2.1 (fun r6482 => Ktu3 fun jr16484 ip16485 gtrc6486 => ?_)
    intro H locs hr6482 hP hD hS
    try dsimp only at hr6482
    refine Kpdr (ws := [(h0, oX12 nw nk mhasKept nt mtaped nr mrowMany mroundOf mroundFrom mouts nm mfromHour mtoHour ns mfrom mto msort misFault mdeep mcoded mlines nl nc nF np ntr nb mbestCost nso nsi nit nsh nsf nss nrc (nI jr16484) 5 mnumber mwhose msize ip16485), (nrc, iA G 30 gtrc6486)]) hP hD (fun hP hD => ?_)
    obtain ⟨hr6482, w6487⟩ := hr6482
    refine toQ hQ0 ?_
    exact RI (v := r6482) hC hP hD hS [0, 1] (jr16484, ip16485, gtrc6486) rfl rfl (by decide) (⟨trivial, by omega⟩) rfl gX12_dealt_0.2.2.2.2.2.2
  · refine iV (wr := []) hC hK hl hP hD hS hA (m_from62 l G h0 xx nw nk mhasKept nt mtaped nr mrowMany mroundOf mroundFrom mouts nm mfromHour mtoHour ns mfrom mto msort misFault mdeep mcoded mlines nl nc nF np ntr nb mbestCost nso nsi nit nsh nsf nss nrc jr 6 mnumber mwhose msize misParted fnrc (hjr) (hjd)) si_X12_357 [0, 1] [] sm_0_1 fm_0_1 nd_0_1 rfl rfl (by decide) rfl rfl rfl rfl rfl (Nat.le_of_ble_eq_true rfl) rm_38_36_5 ⟨Nat.le_of_ble_eq_true rfl, Nat.le_of_ble_eq_true rfl⟩ gX12_dealt_0.2.2.2.2.2.1 (fun r6488 => Ktu3 fun jr16490 ip16491 gtrc6492 => ?_)
    intro H locs hr6488 hP hD hS
    try dsimp only at hr6488
    refine Kpdr (ws := [(h0, oX12 nw nk mhasKept nt mtaped nr mrowMany mroundOf mroundFrom mouts nm mfromHour mtoHour ns mfrom mto msort misFault mdeep mcoded mlines nl nc nF np ntr nb mbestCost nso nsi nit nsh nsf nss nrc (nI jr16490) 6 mnumber mwhose msize ip16491), (nrc, iA G 30 gtrc6492)]) hP hD (fun hP hD => ?_)
    obtain ⟨hr6488, w6493⟩ := hr6488
    refine toQ hQ0 ?_
    exact RI (v := r6488) hC hP hD hS [0, 1] (jr16490, ip16491, gtrc6492) rfl rfl (by decide) (⟨trivial, by omega⟩) rfl gX12_dealt_0.2.2.2.2.2.2
def K_m_body03 (l : Launch) (G : GG) (h0 : Nat) (xx : Int32) (nw : Nat) (nk : Nat) (mhasKept : Int32) (nt : Nat) (mtaped : Int32) (nr : Nat) (mrowMany : Int32) (mroundOf : Int32) (mroundFrom : Int32) (mouts : Int32) (nm : Nat) (mfromHour : Int32) (mtoHour : Int32) (ns : Nat) (mfrom : Int32) (mto : Int32) (msort : Int32) (misFault : Int32) (mdeep : Int32) (mcoded : Int32) (mlines : Int32) (nl : Nat) (nc : Nat) (nF : Nat) (np : Nat) (ntr : Nat) (nb : Nat) (mbestCost : Int32) (nso : Nat) (nsi : Nat) (nit : Nat) (nsh : Nat) (nsf : Nat) (nss : Nat) (nrc : Nat) (jr : Nat) (jd : Nat) (mnumber : Int32) (mwhose : Int32) (msize : Int32) (misParted : Int32) (fnrc : Nat → Int32) : Prop := MI l G yX12_body cX12_body 6 (some .int) 39 0 0 [.ref h0, .int 0, .int 3, .int xx] [(h0, oX12 nw nk mhasKept nt mtaped nr mrowMany mroundOf mroundFrom mouts nm mfromHour mtoHour ns mfrom mto msort misFault mdeep mcoded mlines nl nc nF np ntr nb mbestCost nso nsi nit nsh nsf nss nrc (nI jr) (nI jd) mnumber mwhose msize misParted), (nrc, iA G 30 fnrc)] (fun (r : Int32) (u : Nat × Int32 × (Nat → Int32)) => (True) ∧ (u.1 ≤ 30)) (fun u : Nat × Int32 × (Nat → Int32) => [(h0, oX12 nw nk mhasKept nt mtaped nr mrowMany mroundOf mroundFrom mouts nm mfromHour mtoHour ns mfrom mto msort misFault mdeep mcoded mlines nl nc nF np ntr nb mbestCost nso nsi nit nsh nsf nss nrc (nI u.1) (nI jd) mnumber mwhose msize u.2.1), (nrc, iA G 30 u.2.2)])
set_option maxHeartbeats 4000000 in
set_option maxRecDepth 100000 in
theorem m_body03 (l : Launch) (G : GG) (h0 : Nat) (xx : Int32) (nw : Nat) (nk : Nat) (mhasKept : Int32) (nt : Nat) (mtaped : Int32) (nr : Nat) (mrowMany : Int32) (mroundOf : Int32) (mroundFrom : Int32) (mouts : Int32) (nm : Nat) (mfromHour : Int32) (mtoHour : Int32) (ns : Nat) (mfrom : Int32) (mto : Int32) (msort : Int32) (misFault : Int32) (mdeep : Int32) (mcoded : Int32) (mlines : Int32) (nl : Nat) (nc : Nat) (nF : Nat) (np : Nat) (ntr : Nat) (nb : Nat) (mbestCost : Int32) (nso : Nat) (nsi : Nat) (nit : Nat) (nsh : Nat) (nsf : Nat) (nss : Nat) (nrc : Nat) (jr : Nat) (jd : Nat) (mnumber : Int32) (mwhose : Int32) (msize : Int32) (misParted : Int32) (fnrc : Nat → Int32) (hjr : jr ≤ 30) (hjd : jd < 7) : K_m_body03 l G h0 xx nw nk mhasKept nt mtaped nr mrowMany mroundOf mroundFrom mouts nm mfromHour mtoHour ns mfrom mto msort misFault mdeep mcoded mlines nl nc nF np ntr nb mbestCost nso nsi nit nsh nsf nss nrc jr jd mnumber mwhose msize misParted fnrc := by
  refine MI.start (by decide +kernel) (Nat.le_of_ble_eq_true rfl) ?_
  intro p e s m below meth c A ls hC hK hP hD hS hA hl
  refine absQ (fun Q0 hQ0 => ?_)
  have hl : lv_has ls 6 [(0, .ref h0), (1, .int 0), (2, .int 3), (3, .int xx)] := hl
  refine Kan8 hC (fun hx hb hr hml hB hown hlocks hnm => ?_)
  refine lv_iconst (v := 4) hx hb gX12_body_0.1 (by decide) ?_
  refine lv_iload_n hx hb gX12_body_0.2.1 rfl (lv_at1 hl) ?_
  refine lv_imul hx hb gX12_body_0.2.2.1 ?_
  refine eqi (x1 := 0) (by decide) ?_
  refine lv_iload_n hx hb gX12_body_0.2.2.2.1 rfl (lv_at2 hl) ?_
  refine lv_iadd hx hb gX12_body_0.2.2.2.2.1 ?_
  refine eqi (x1 := 3) (by decide) ?_
  refine lv_tableIn (tgt := 158) hx hb gX12_body_0.2.2.2.2.2.1 (by decide) (by decide) rfl (by decide) ?_
  refine lv_aload_n hx hb gX12_body_3.2.2.2.2.2.1 rfl (lv_at0 hl) ?_
  refine lv_bipush (v := 13) hx hb gX12_body_3.2.2.2.2.2.2.1 (by decide) ?_
  refine vV (wr := []) hC hK hl hP hD hS hA (m_began l G h0 13 nw nk mhasKept nt mtaped nr mrowMany mroundOf mroundFrom mouts nm mfromHour mtoHour ns mfrom mto msort misFault mdeep mcoded mlines nl nc nF np ntr nb mbestCost nso nsi nit nsh nsf nss nrc jr (nI jd) mnumber mwhose msize misParted fnrc (hjr)) si_X12_366 [0, 1] [] sm_0_1 fm_0_1 nd_0_1 rfl rfl (by decide) rfl rfl rfl rfl rfl (Nat.le_of_ble_eq_true rfl) rm_39_1_2 ⟨Nat.le_of_ble_eq_true rfl, Nat.le_of_ble_eq_true rfl⟩ gX12_body_3.2.2.2.2.2.2.2.1 (Ktu2 fun jr16496 gtrc6497 => ?_)
  intro H locs hr6494 hP hD hS
  try dsimp only at hr6494
  refine Kpdr (ws := [(h0, oX12 nw nk mhasKept nt mtaped nr mrowMany mroundOf mroundFrom mouts nm mfromHour mtoHour ns mfrom mto msort misFault mdeep mcoded mlines nl nc nF np ntr nb mbestCost nso nsi nit nsh nsf nss nrc (nI jr16496) (nI jd) mnumber mwhose msize misParted), (nrc, iA G 30 gtrc6497)]) hP hD (fun hP hD => ?_)
  have w6498 := hr6494
  refine lv_aload_n hx hb gX12_body_3.2.2.2.2.2.2.2.2.1 rfl (lv_at0 hl) ?_
  refine lv_aload_n hx hb gX12_body_3.2.2.2.2.2.2.2.2.2 rfl (lv_at0 hl) ?_
  refine gf_X12_375 hC rfl hK hP 0 rfl rfl gX12_body_4.1 ?_
  refine lv_aload_n hx hb gX12_body_4.2.1 rfl (lv_at0 hl) ?_
  refine gf_X12_378 hC rfl hK hP 0 rfl rfl gX12_body_4.2.2.1 ?_
  refine lv_icmp_ne (tgt := 180) hx hb gX12_body_4.2.2.2.1 (by decide) (fun c_173_6499 => ?_) (fun c_173_6499 => ?_)
  · refine lv_iconst (v := 0) hx hb gX12_body_4.2.2.2.2.2.2.1 (by decide) ?_
    refine pf_X12_380 hC rfl hK hP hD hS 0 (ws' := [(h0, oX12 nw nk mhasKept nt mtaped nr mrowMany mroundOf mroundFrom mouts nm mfromHour mtoHour ns mfrom mto msort misFault mdeep mcoded mlines nl nc nF np ntr nb mbestCost nso nsi nit nsh nsf nss nrc (nI jr16496) (nI jd) mnumber mwhose msize 0), (nrc, iA G 30 gtrc6497)]) rfl (Nat.le_of_ble_eq_true rfl) rfl (by decide +kernel) (by decide +kernel) gX12_body_4.2.2.2.2.2.2.2.1 (fun H locs hP hD hS => ?_)
    refine lv_aload_n hx hb gX12_body_4.2.2.2.2.2.2.2.2.1 rfl (lv_at0 hl) ?_
    refine gf_X12_380 hC rfl hK hP 0 rfl rfl gX12_body_4.2.2.2.2.2.2.2.2.2 ?_
    refine lv_if_eq (tgt := 195) hx hb gX12_body_5.1 (by decide) (fun _ => ?_) (fun c9 => absurd (by decide) c9)
    refine lv_iload_n hx hb gX12_body_5.2.2.2.1 rfl (lv_at3 hl) ?_
    refine lv_aload_n hx hb gX12_body_5.2.2.2.2.1 rfl (lv_at0 hl) ?_
    refine gf_X12_375 hC rfl hK hP 0 rfl rfl gX12_body_5.2.2.2.2.2.1 ?_
    refine lv_aload_n hx hb gX12_body_5.2.2.2.2.2.2.1 rfl (lv_at0 hl) ?_
    refine gf_X12_378 hC rfl hK hP 0 rfl rfl gX12_body_5.2.2.2.2.2.2.2.1 ?_
    refine lv_isub hx hb gX12_body_5.2.2.2.2.2.2.2.2.1 ?_
    refine lv_idiv hx hb gX12_body_5.2.2.2.2.2.2.2.2.2 (nz_sub c_173_6499) ?_
    refine lv_topi (fun x6500 ex6500 => ?_)
    refine toQ hQ0 ?_
    exact RI (v := x6500) hC hP hD hS [0, 1] (jr16496, 0, gtrc6497) rfl rfl (by decide) (⟨trivial, by omega⟩) rfl gX12_body_6.1
  · refine lv_iconst (v := 1) hx hb gX12_body_4.2.2.2.2.1 (by decide) ?_
    refine lv_goto (tgt := 181) hx hb gX12_body_4.2.2.2.2.2.1 (by decide) ?_
    refine pf_X12_380 hC rfl hK hP hD hS 0 (ws' := [(h0, oX12 nw nk mhasKept nt mtaped nr mrowMany mroundOf mroundFrom mouts nm mfromHour mtoHour ns mfrom mto msort misFault mdeep mcoded mlines nl nc nF np ntr nb mbestCost nso nsi nit nsh nsf nss nrc (nI jr16496) (nI jd) mnumber mwhose msize 1), (nrc, iA G 30 gtrc6497)]) rfl (Nat.le_of_ble_eq_true rfl) rfl (by decide +kernel) (by decide +kernel) gX12_body_4.2.2.2.2.2.2.2.1 (fun H locs hP hD hS => ?_)
    refine lv_aload_n hx hb gX12_body_4.2.2.2.2.2.2.2.2.1 rfl (lv_at0 hl) ?_
    refine gf_X12_380 hC rfl hK hP 0 rfl rfl gX12_body_4.2.2.2.2.2.2.2.2.2 ?_
    refine lv_if_eq (tgt := 195) hx hb gX12_body_5.1 (by decide) (fun c9 => absurd c9 (by decide)) (fun _ => ?_)
    refine lv_iconst (v := 0) hx hb gX12_body_5.2.1 (by decide) ?_
    refine lv_goto (tgt := 206) hx hb gX12_body_5.2.2.1 (by decide) ?_
    refine toQ hQ0 ?_
    exact RI (v := 0) hC hP hD hS [0, 1] (jr16496, 1, gtrc6497) rfl rfl (by decide) (⟨trivial, by omega⟩) rfl gX12_body_6.1
def K_m_from03 (l : Launch) (G : GG) (h0 : Nat) (xx : Int32) (nw : Nat) (nk : Nat) (mhasKept : Int32) (nt : Nat) (mtaped : Int32) (nr : Nat) (mrowMany : Int32) (mroundOf : Int32) (mroundFrom : Int32) (mouts : Int32) (nm : Nat) (mfromHour : Int32) (mtoHour : Int32) (ns : Nat) (mfrom : Int32) (mto : Int32) (msort : Int32) (misFault : Int32) (mdeep : Int32) (mcoded : Int32) (mlines : Int32) (nl : Nat) (nc : Nat) (nF : Nat) (np : Nat) (ntr : Nat) (nb : Nat) (mbestCost : Int32) (nso : Nat) (nsi : Nat) (nit : Nat) (nsh : Nat) (nsf : Nat) (nss : Nat) (nrc : Nat) (jr : Nat) (jd : Nat) (mnumber : Int32) (mwhose : Int32) (msize : Int32) (misParted : Int32) (fnrc : Nat → Int32) : Prop := MI l G yX12_bodyFrom cX12_bodyFrom 5 (some .int) 40 0 0 [.ref h0, .int 0, .int 3, .int xx] [(h0, oX12 nw nk mhasKept nt mtaped nr mrowMany mroundOf mroundFrom mouts nm mfromHour mtoHour ns mfrom mto msort misFault mdeep mcoded mlines nl nc nF np ntr nb mbestCost nso nsi nit nsh nsf nss nrc (nI jr) (nI jd) mnumber mwhose msize misParted), (nrc, iA G 30 fnrc)] (fun (r : Int32) (u : Nat × Int32 × (Nat → Int32)) => (True) ∧ (u.1 ≤ 30)) (fun u : Nat × Int32 × (Nat → Int32) => [(h0, oX12 nw nk mhasKept nt mtaped nr mrowMany mroundOf mroundFrom mouts nm mfromHour mtoHour ns mfrom mto msort misFault mdeep mcoded mlines nl nc nF np ntr nb mbestCost nso nsi nit nsh nsf nss nrc (nI u.1) (nI jd) mnumber mwhose msize u.2.1), (nrc, iA G 30 u.2.2)])
set_option maxHeartbeats 4000000 in
set_option maxRecDepth 100000 in
theorem m_from03 (l : Launch) (G : GG) (h0 : Nat) (xx : Int32) (nw : Nat) (nk : Nat) (mhasKept : Int32) (nt : Nat) (mtaped : Int32) (nr : Nat) (mrowMany : Int32) (mroundOf : Int32) (mroundFrom : Int32) (mouts : Int32) (nm : Nat) (mfromHour : Int32) (mtoHour : Int32) (ns : Nat) (mfrom : Int32) (mto : Int32) (msort : Int32) (misFault : Int32) (mdeep : Int32) (mcoded : Int32) (mlines : Int32) (nl : Nat) (nc : Nat) (nF : Nat) (np : Nat) (ntr : Nat) (nb : Nat) (mbestCost : Int32) (nso : Nat) (nsi : Nat) (nit : Nat) (nsh : Nat) (nsf : Nat) (nss : Nat) (nrc : Nat) (jr : Nat) (jd : Nat) (mnumber : Int32) (mwhose : Int32) (msize : Int32) (misParted : Int32) (fnrc : Nat → Int32) (hjr : jr ≤ 30) (hjd : jd < 7) : K_m_from03 l G h0 xx nw nk mhasKept nt mtaped nr mrowMany mroundOf mroundFrom mouts nm mfromHour mtoHour ns mfrom mto msort misFault mdeep mcoded mlines nl nc nF np ntr nb mbestCost nso nsi nit nsh nsf nss nrc jr jd mnumber mwhose msize misParted fnrc := by
  refine MI.start (by decide +kernel) (Nat.le_of_ble_eq_true rfl) ?_
  intro p e s m below meth c A ls hC hK hP hD hS hA hl
  refine absQ (fun Q0 hQ0 => ?_)
  have hl : lv_has ls 5 [(0, .ref h0), (1, .int 0), (2, .int 3), (3, .int xx)] := hl
  refine Kan8 hC (fun hx hb hr hml hB hown hlocks hnm => ?_)
  refine lv_iload_n hx hb gX12_bodyFrom_0.1 rfl (lv_at1 hl) ?_
  refine lv_istore (lv' := [(4, .int 0), (0, .ref h0), (1, .int 0), (2, .int 3), (3, .int xx)]) hx hb gX12_bodyFrom_0.2.1 hl (by decide) rfl (fun ls hl => ?_)
  refine lv_iload hx hb gX12_bodyFrom_0.2.2.1 (lv_at0 hl) ?_
  refine lv_iload_n hx hb gX12_bodyFrom_0.2.2.2.1 rfl (lv_at3 hl) ?_
  refine pS hC hK hl (m_hasOwn03 l G) si_X12_360 rfl rfl (Nat.le_of_ble_eq_true rfl) rm_40_1_2 ⟨by first | exact Nat.le_of_ble_eq_true rfl | exact Nat.zero_le _, by first | exact Nat.le_of_ble_eq_true rfl | exact Nat.zero_le _⟩ gX12_bodyFrom_0.2.2.2.2.1 (Keqr ?_)
  refine lv_if_ne (tgt := 22) hx hb gX12_bodyFrom_0.2.2.2.2.2.1 (by decide) (fun _ => ?_) (fun c9 => absurd c9 (by decide))
  refine lv_aload_n hx hb gX12_bodyFrom_1.1 rfl (lv_at1 hl) ?_
  refine lv_iload hx hb gX12_bodyFrom_1.2.1 (lv_at0 hl) ?_
  refine lv_iload_n hx hb gX12_bodyFrom_1.2.2.1 rfl (lv_at3 hl) ?_
  refine lv_iload_n hx hb gX12_bodyFrom_1.2.2.2.1 rfl (lv_at4 hl) ?_
  refine iV (wr := []) hC hK hl hP hD hS hA (m_body03 l G h0 xx nw nk mhasKept nt mtaped nr mrowMany mroundOf mroundFrom mouts nm mfromHour mtoHour ns mfrom mto msort misFault mdeep mcoded mlines nl nc nF np ntr nb mbestCost nso nsi nit nsh nsf nss nrc jr jd mnumber mwhose msize misParted fnrc (hjr) (hjd)) si_X12_363 [0, 1] [] sm_0_1 fm_0_1 nd_0_1 rfl rfl (by decide) rfl rfl rfl rfl rfl (Nat.le_of_ble_eq_true rfl) rm_40_39_6 ⟨Nat.le_of_ble_eq_true rfl, Nat.le_of_ble_eq_true rfl⟩ gX12_bodyFrom_1.2.2.2.2.1 (fun r6503 => Ktu3 fun jr16505 ip16506 gtrc6507 => ?_)
  intro H locs hr6503 hP hD hS
  try dsimp only at hr6503
  refine Kpdr (ws := [(h0, oX12 nw nk mhasKept nt mtaped nr mrowMany mroundOf mroundFrom mouts nm mfromHour mtoHour ns mfrom mto msort misFault mdeep mcoded mlines nl nc nF np ntr nb mbestCost nso nsi nit nsh nsf nss nrc (nI jr16505) (nI jd) mnumber mwhose msize ip16506), (nrc, iA G 30 gtrc6507)]) hP hD (fun hP hD => ?_)
  obtain ⟨hr6503, w6508⟩ := hr6503
  refine toQ hQ0 ?_
  exact RI (v := r6503) hC hP hD hS [0, 1] (jr16505, ip16506, gtrc6507) rfl rfl (by decide) (⟨trivial, by omega⟩) rfl gX12_bodyFrom_1.2.2.2.2.2
def K_m_from13 (l : Launch) (G : GG) (h0 : Nat) (xx : Int32) (nw : Nat) (nk : Nat) (mhasKept : Int32) (nt : Nat) (mtaped : Int32) (nr : Nat) (mrowMany : Int32) (mroundOf : Int32) (mroundFrom : Int32) (mouts : Int32) (nm : Nat) (mfromHour : Int32) (mtoHour : Int32) (ns : Nat) (mfrom : Int32) (mto : Int32) (msort : Int32) (misFault : Int32) (mdeep : Int32) (mcoded : Int32) (mlines : Int32) (nl : Nat) (nc : Nat) (nF : Nat) (np : Nat) (ntr : Nat) (nb : Nat) (mbestCost : Int32) (nso : Nat) (nsi : Nat) (nit : Nat) (nsh : Nat) (nsf : Nat) (nss : Nat) (nrc : Nat) (jr : Nat) (jd : Nat) (mnumber : Int32) (mwhose : Int32) (msize : Int32) (misParted : Int32) (fnrc : Nat → Int32) : Prop := MI l G yX12_bodyFrom cX12_bodyFrom 5 (some .int) 42 0 0 [.ref h0, .int 1, .int 3, .int xx] [(h0, oX12 nw nk mhasKept nt mtaped nr mrowMany mroundOf mroundFrom mouts nm mfromHour mtoHour ns mfrom mto msort misFault mdeep mcoded mlines nl nc nF np ntr nb mbestCost nso nsi nit nsh nsf nss nrc (nI jr) (nI jd) mnumber mwhose msize misParted), (nrc, iA G 30 fnrc)] (fun (r : Int32) (u : Nat × Int32 × (Nat → Int32)) => (True) ∧ (u.1 ≤ 30)) (fun u : Nat × Int32 × (Nat → Int32) => [(h0, oX12 nw nk mhasKept nt mtaped nr mrowMany mroundOf mroundFrom mouts nm mfromHour mtoHour ns mfrom mto msort misFault mdeep mcoded mlines nl nc nF np ntr nb mbestCost nso nsi nit nsh nsf nss nrc (nI u.1) (nI jd) mnumber mwhose msize u.2.1), (nrc, iA G 30 u.2.2)])
set_option maxHeartbeats 4000000 in
set_option maxRecDepth 100000 in
theorem m_from13 (l : Launch) (G : GG) (h0 : Nat) (xx : Int32) (nw : Nat) (nk : Nat) (mhasKept : Int32) (nt : Nat) (mtaped : Int32) (nr : Nat) (mrowMany : Int32) (mroundOf : Int32) (mroundFrom : Int32) (mouts : Int32) (nm : Nat) (mfromHour : Int32) (mtoHour : Int32) (ns : Nat) (mfrom : Int32) (mto : Int32) (msort : Int32) (misFault : Int32) (mdeep : Int32) (mcoded : Int32) (mlines : Int32) (nl : Nat) (nc : Nat) (nF : Nat) (np : Nat) (ntr : Nat) (nb : Nat) (mbestCost : Int32) (nso : Nat) (nsi : Nat) (nit : Nat) (nsh : Nat) (nsf : Nat) (nss : Nat) (nrc : Nat) (jr : Nat) (jd : Nat) (mnumber : Int32) (mwhose : Int32) (msize : Int32) (misParted : Int32) (fnrc : Nat → Int32) (hjr : jr ≤ 30) (hjd : jd < 7) : K_m_from13 l G h0 xx nw nk mhasKept nt mtaped nr mrowMany mroundOf mroundFrom mouts nm mfromHour mtoHour ns mfrom mto msort misFault mdeep mcoded mlines nl nc nF np ntr nb mbestCost nso nsi nit nsh nsf nss nrc jr jd mnumber mwhose msize misParted fnrc := by
  refine MI.start (by decide +kernel) (Nat.le_of_ble_eq_true rfl) ?_
  intro p e s m below meth c A ls hC hK hP hD hS hA hl
  refine absQ (fun Q0 hQ0 => ?_)
  have hl : lv_has ls 5 [(0, .ref h0), (1, .int 1), (2, .int 3), (3, .int xx)] := hl
  refine Kan8 hC (fun hx hb hr hml hB hown hlocks hnm => ?_)
  refine lv_iload_n hx hb gX12_bodyFrom_0.1 rfl (lv_at1 hl) ?_
  refine lv_istore (lv' := [(4, .int 1), (0, .ref h0), (1, .int 1), (2, .int 3), (3, .int xx)]) hx hb gX12_bodyFrom_0.2.1 hl (by decide) rfl (fun ls hl => ?_)
  refine lv_iload hx hb gX12_bodyFrom_0.2.2.1 (lv_at0 hl) ?_
  refine lv_iload_n hx hb gX12_bodyFrom_0.2.2.2.1 rfl (lv_at3 hl) ?_
  refine pS hC hK hl (m_hasOwn13 l G) si_X12_360 rfl rfl (Nat.le_of_ble_eq_true rfl) rm_42_1_2 ⟨by first | exact Nat.le_of_ble_eq_true rfl | exact Nat.zero_le _, by first | exact Nat.le_of_ble_eq_true rfl | exact Nat.zero_le _⟩ gX12_bodyFrom_0.2.2.2.2.1 (Keqr ?_)
  refine lv_if_ne (tgt := 22) hx hb gX12_bodyFrom_0.2.2.2.2.2.1 (by decide) (fun c9 => absurd (by decide) c9) (fun _ => ?_)
  refine lv_iload hx hb gX12_bodyFrom_0.2.2.2.2.2.2.1 (lv_at0 hl) ?_
  refine pS hC hK hl (m_above1 l G) si_X12_348 rfl rfl (Nat.le_of_ble_eq_true rfl) rm_42_1_1 ⟨by first | exact Nat.le_of_ble_eq_true rfl | exact Nat.zero_le _, by first | exact Nat.le_of_ble_eq_true rfl | exact Nat.zero_le _⟩ gX12_bodyFrom_0.2.2.2.2.2.2.2.1 (Keqr ?_)
  refine lv_istore (lv' := [(4, .int 0), (0, .ref h0), (1, .int 1), (2, .int 3), (3, .int xx)]) hx hb gX12_bodyFrom_0.2.2.2.2.2.2.2.2.1 hl (by decide) rfl (fun ls hl => ?_)
  refine lv_goto (tgt := 3) hx hb gX12_bodyFrom_0.2.2.2.2.2.2.2.2.2 (by decide) ?_
  refine lv_iload hx hb gX12_bodyFrom_0.2.2.1 (lv_at0 hl) ?_
  refine lv_iload_n hx hb gX12_bodyFrom_0.2.2.2.1 rfl (lv_at3 hl) ?_
  refine pS hC hK hl (m_hasOwn03 l G) si_X12_360 rfl rfl (Nat.le_of_ble_eq_true rfl) rm_42_1_2 ⟨by first | exact Nat.le_of_ble_eq_true rfl | exact Nat.zero_le _, by first | exact Nat.le_of_ble_eq_true rfl | exact Nat.zero_le _⟩ gX12_bodyFrom_0.2.2.2.2.1 (Keqr ?_)
  refine lv_if_ne (tgt := 22) hx hb gX12_bodyFrom_0.2.2.2.2.2.1 (by decide) (fun _ => ?_) (fun c9 => absurd c9 (by decide))
  refine lv_aload_n hx hb gX12_bodyFrom_1.1 rfl (lv_at1 hl) ?_
  refine lv_iload hx hb gX12_bodyFrom_1.2.1 (lv_at0 hl) ?_
  refine lv_iload_n hx hb gX12_bodyFrom_1.2.2.1 rfl (lv_at3 hl) ?_
  refine lv_iload_n hx hb gX12_bodyFrom_1.2.2.2.1 rfl (lv_at4 hl) ?_
  refine iV (wr := []) hC hK hl hP hD hS hA (m_body03 l G h0 xx nw nk mhasKept nt mtaped nr mrowMany mroundOf mroundFrom mouts nm mfromHour mtoHour ns mfrom mto msort misFault mdeep mcoded mlines nl nc nF np ntr nb mbestCost nso nsi nit nsh nsf nss nrc jr jd mnumber mwhose msize misParted fnrc (hjr) (hjd)) si_X12_363 [0, 1] [] sm_0_1 fm_0_1 nd_0_1 rfl rfl (by decide) rfl rfl rfl rfl rfl (Nat.le_of_ble_eq_true rfl) rm_42_39_6 ⟨Nat.le_of_ble_eq_true rfl, Nat.le_of_ble_eq_true rfl⟩ gX12_bodyFrom_1.2.2.2.2.1 (fun r6515 => Ktu3 fun jr16517 ip16518 gtrc6519 => ?_)
  intro H locs hr6515 hP hD hS
  try dsimp only at hr6515
  refine Kpdr (ws := [(h0, oX12 nw nk mhasKept nt mtaped nr mrowMany mroundOf mroundFrom mouts nm mfromHour mtoHour ns mfrom mto msort misFault mdeep mcoded mlines nl nc nF np ntr nb mbestCost nso nsi nit nsh nsf nss nrc (nI jr16517) (nI jd) mnumber mwhose msize ip16518), (nrc, iA G 30 gtrc6519)]) hP hD (fun hP hD => ?_)
  obtain ⟨hr6515, w6520⟩ := hr6515
  refine toQ hQ0 ?_
  exact RI (v := r6515) hC hP hD hS [0, 1] (jr16517, ip16518, gtrc6519) rfl rfl (by decide) (⟨trivial, by omega⟩) rfl gX12_bodyFrom_1.2.2.2.2.2
def K_m_body33 (l : Launch) (G : GG) (h0 : Nat) (xx : Int32) (nw : Nat) (nk : Nat) (mhasKept : Int32) (nt : Nat) (mtaped : Int32) (nr : Nat) (mrowMany : Int32) (mroundOf : Int32) (mroundFrom : Int32) (mouts : Int32) (nm : Nat) (mfromHour : Int32) (mtoHour : Int32) (ns : Nat) (mfrom : Int32) (mto : Int32) (msort : Int32) (misFault : Int32) (mdeep : Int32) (mcoded : Int32) (mlines : Int32) (nl : Nat) (nc : Nat) (nF : Nat) (np : Nat) (ntr : Nat) (nb : Nat) (mbestCost : Int32) (nso : Nat) (nsi : Nat) (nit : Nat) (nsh : Nat) (nsf : Nat) (nss : Nat) (nrc : Nat) (jr : Nat) (jd : Nat) (mnumber : Int32) (mwhose : Int32) (msize : Int32) (misParted : Int32) (fnrc : Nat → Int32) : Prop := MI l G yX12_body cX12_body 6 (some .int) 43 0 0 [.ref h0, .int 3, .int 3, .int xx] [(h0, oX12 nw nk mhasKept nt mtaped nr mrowMany mroundOf mroundFrom mouts nm mfromHour mtoHour ns mfrom mto msort misFault mdeep mcoded mlines nl nc nF np ntr nb mbestCost nso nsi nit nsh nsf nss nrc (nI jr) (nI jd) mnumber mwhose msize misParted), (nrc, iA G 30 fnrc)] (fun (r : Int32) (u : Nat × Int32 × (Nat → Int32)) => (True) ∧ (u.1 ≤ 30)) (fun u : Nat × Int32 × (Nat → Int32) => [(h0, oX12 nw nk mhasKept nt mtaped nr mrowMany mroundOf mroundFrom mouts nm mfromHour mtoHour ns mfrom mto msort misFault mdeep mcoded mlines nl nc nF np ntr nb mbestCost nso nsi nit nsh nsf nss nrc (nI u.1) (nI jd) mnumber mwhose msize u.2.1), (nrc, iA G 30 u.2.2)])
set_option maxHeartbeats 4000000 in
set_option maxRecDepth 100000 in
theorem m_body33 (l : Launch) (G : GG) (h0 : Nat) (xx : Int32) (nw : Nat) (nk : Nat) (mhasKept : Int32) (nt : Nat) (mtaped : Int32) (nr : Nat) (mrowMany : Int32) (mroundOf : Int32) (mroundFrom : Int32) (mouts : Int32) (nm : Nat) (mfromHour : Int32) (mtoHour : Int32) (ns : Nat) (mfrom : Int32) (mto : Int32) (msort : Int32) (misFault : Int32) (mdeep : Int32) (mcoded : Int32) (mlines : Int32) (nl : Nat) (nc : Nat) (nF : Nat) (np : Nat) (ntr : Nat) (nb : Nat) (mbestCost : Int32) (nso : Nat) (nsi : Nat) (nit : Nat) (nsh : Nat) (nsf : Nat) (nss : Nat) (nrc : Nat) (jr : Nat) (jd : Nat) (mnumber : Int32) (mwhose : Int32) (msize : Int32) (misParted : Int32) (fnrc : Nat → Int32) (hjr : jr ≤ 30) (hjd : jd < 7) : K_m_body33 l G h0 xx nw nk mhasKept nt mtaped nr mrowMany mroundOf mroundFrom mouts nm mfromHour mtoHour ns mfrom mto msort misFault mdeep mcoded mlines nl nc nF np ntr nb mbestCost nso nsi nit nsh nsf nss nrc jr jd mnumber mwhose msize misParted fnrc := by
  refine MI.start (by decide +kernel) (Nat.le_of_ble_eq_true rfl) ?_
  intro p e s m below meth c A ls hC hK hP hD hS hA hl
  refine absQ (fun Q0 hQ0 => ?_)
  have hl : lv_has ls 6 [(0, .ref h0), (1, .int 3), (2, .int 3), (3, .int xx)] := hl
  refine Kan8 hC (fun hx hb hr hml hB hown hlocks hnm => ?_)
  refine lv_iconst (v := 4) hx hb gX12_body_0.1 (by decide) ?_
  refine lv_iload_n hx hb gX12_body_0.2.1 rfl (lv_at1 hl) ?_
  refine lv_imul hx hb gX12_body_0.2.2.1 ?_
  refine eqi (x1 := 12) (by decide) ?_
  refine lv_iload_n hx hb gX12_body_0.2.2.2.1 rfl (lv_at2 hl) ?_
  refine lv_iadd hx hb gX12_body_0.2.2.2.2.1 ?_
  refine eqi (x1 := 15) (by decide) ?_
  refine lv_tableIn (tgt := 258) hx hb gX12_body_0.2.2.2.2.2.1 (by decide) (by decide) rfl (by decide) ?_
  refine lv_aload_n hx hb gX12_body_9.2.2.2.2.2.1 rfl (lv_at0 hl) ?_
  refine lv_bipush (v := 41) hx hb gX12_body_9.2.2.2.2.2.2.1 (by decide) ?_
  refine vV (wr := []) hC hK hl hP hD hS hA (m_began l G h0 41 nw nk mhasKept nt mtaped nr mrowMany mroundOf mroundFrom mouts nm mfromHour mtoHour ns mfrom mto msort misFault mdeep mcoded mlines nl nc nF np ntr nb mbestCost nso nsi nit nsh nsf nss nrc jr (nI jd) mnumber mwhose msize misParted fnrc (hjr)) si_X12_366 [0, 1] [] sm_0_1 fm_0_1 nd_0_1 rfl rfl (by decide) rfl rfl rfl rfl rfl (Nat.le_of_ble_eq_true rfl) rm_43_1_2 ⟨Nat.le_of_ble_eq_true rfl, Nat.le_of_ble_eq_true rfl⟩ gX12_body_9.2.2.2.2.2.2.2.1 (Ktu2 fun jr16523 gtrc6524 => ?_)
  intro H locs hr6521 hP hD hS
  try dsimp only at hr6521
  refine Kpdr (ws := [(h0, oX12 nw nk mhasKept nt mtaped nr mrowMany mroundOf mroundFrom mouts nm mfromHour mtoHour ns mfrom mto msort misFault mdeep mcoded mlines nl nc nF np ntr nb mbestCost nso nsi nit nsh nsf nss nrc (nI jr16523) (nI jd) mnumber mwhose msize misParted), (nrc, iA G 30 gtrc6524)]) hP hD (fun hP hD => ?_)
  have w6525 := hr6521
  refine lv_aload_n hx hb gX12_body_9.2.2.2.2.2.2.2.2.1 rfl (lv_at0 hl) ?_
  refine lv_iconst (v := 1) hx hb gX12_body_9.2.2.2.2.2.2.2.2.2 (by decide) ?_
  refine lv_iconst (v := 3) hx hb gX12_body_10.1 (by decide) ?_
  refine lv_iload_n hx hb gX12_body_10.2.1 rfl (lv_at3 hl) ?_
  refine lv_iconst (v := 2) hx hb gX12_body_10.2.2.1 (by decide) ?_
  refine lv_iadd hx hb gX12_body_10.2.2.2.1 ?_
  refine iV (wr := []) hC hK hl hP hD hS hA (m_from13 l G h0 (xx + 2) nw nk mhasKept nt mtaped nr mrowMany mroundOf mroundFrom mouts nm mfromHour mtoHour ns mfrom mto msort misFault mdeep mcoded mlines nl nc nF np ntr nb mbestCost nso nsi nit nsh nsf nss nrc jr16523 jd mnumber mwhose msize misParted gtrc6524 (w6525) (hjd)) si_X12_357 [0, 1] [] sm_0_1 fm_0_1 nd_0_1 rfl rfl (by decide) rfl rfl rfl rfl rfl (Nat.le_of_ble_eq_true rfl) rm_43_42_5 ⟨Nat.le_of_ble_eq_true rfl, Nat.le_of_ble_eq_true rfl⟩ gX12_body_10.2.2.2.2.1 (fun r6526 => Ktu3 fun jr16528 ip16529 gtrc6530 => ?_)
  intro H locs hr6526 hP hD hS
  try dsimp only at hr6526
  refine Kpdr (ws := [(h0, oX12 nw nk mhasKept nt mtaped nr mrowMany mroundOf mroundFrom mouts nm mfromHour mtoHour ns mfrom mto msort misFault mdeep mcoded mlines nl nc nF np ntr nb mbestCost nso nsi nit nsh nsf nss nrc (nI jr16528) (nI jd) mnumber mwhose msize ip16529), (nrc, iA G 30 gtrc6530)]) hP hD (fun hP hD => ?_)
  obtain ⟨hr6526, w6531⟩ := hr6526
  refine toQ hQ0 ?_
  exact RI (v := r6526) hC hP hD hS [0, 1] (jr16528, ip16529, gtrc6530) rfl rfl (by decide) (⟨trivial, by omega⟩) rfl gX12_body_10.2.2.2.2.2.1
def K_m_from33 (l : Launch) (G : GG) (h0 : Nat) (xx : Int32) (nw : Nat) (nk : Nat) (mhasKept : Int32) (nt : Nat) (mtaped : Int32) (nr : Nat) (mrowMany : Int32) (mroundOf : Int32) (mroundFrom : Int32) (mouts : Int32) (nm : Nat) (mfromHour : Int32) (mtoHour : Int32) (ns : Nat) (mfrom : Int32) (mto : Int32) (msort : Int32) (misFault : Int32) (mdeep : Int32) (mcoded : Int32) (mlines : Int32) (nl : Nat) (nc : Nat) (nF : Nat) (np : Nat) (ntr : Nat) (nb : Nat) (mbestCost : Int32) (nso : Nat) (nsi : Nat) (nit : Nat) (nsh : Nat) (nsf : Nat) (nss : Nat) (nrc : Nat) (jr : Nat) (jd : Nat) (mnumber : Int32) (mwhose : Int32) (msize : Int32) (misParted : Int32) (fnrc : Nat → Int32) : Prop := MI l G yX12_bodyFrom cX12_bodyFrom 5 (some .int) 44 0 0 [.ref h0, .int 3, .int 3, .int xx] [(h0, oX12 nw nk mhasKept nt mtaped nr mrowMany mroundOf mroundFrom mouts nm mfromHour mtoHour ns mfrom mto msort misFault mdeep mcoded mlines nl nc nF np ntr nb mbestCost nso nsi nit nsh nsf nss nrc (nI jr) (nI jd) mnumber mwhose msize misParted), (nrc, iA G 30 fnrc)] (fun (r : Int32) (u : Nat × Int32 × (Nat → Int32)) => (True) ∧ (u.1 ≤ 30)) (fun u : Nat × Int32 × (Nat → Int32) => [(h0, oX12 nw nk mhasKept nt mtaped nr mrowMany mroundOf mroundFrom mouts nm mfromHour mtoHour ns mfrom mto msort misFault mdeep mcoded mlines nl nc nF np ntr nb mbestCost nso nsi nit nsh nsf nss nrc (nI u.1) (nI jd) mnumber mwhose msize u.2.1), (nrc, iA G 30 u.2.2)])
set_option maxHeartbeats 4000000 in
set_option maxRecDepth 100000 in
theorem m_from33 (l : Launch) (G : GG) (h0 : Nat) (xx : Int32) (nw : Nat) (nk : Nat) (mhasKept : Int32) (nt : Nat) (mtaped : Int32) (nr : Nat) (mrowMany : Int32) (mroundOf : Int32) (mroundFrom : Int32) (mouts : Int32) (nm : Nat) (mfromHour : Int32) (mtoHour : Int32) (ns : Nat) (mfrom : Int32) (mto : Int32) (msort : Int32) (misFault : Int32) (mdeep : Int32) (mcoded : Int32) (mlines : Int32) (nl : Nat) (nc : Nat) (nF : Nat) (np : Nat) (ntr : Nat) (nb : Nat) (mbestCost : Int32) (nso : Nat) (nsi : Nat) (nit : Nat) (nsh : Nat) (nsf : Nat) (nss : Nat) (nrc : Nat) (jr : Nat) (jd : Nat) (mnumber : Int32) (mwhose : Int32) (msize : Int32) (misParted : Int32) (fnrc : Nat → Int32) (hjr : jr ≤ 30) (hjd : jd < 7) : K_m_from33 l G h0 xx nw nk mhasKept nt mtaped nr mrowMany mroundOf mroundFrom mouts nm mfromHour mtoHour ns mfrom mto msort misFault mdeep mcoded mlines nl nc nF np ntr nb mbestCost nso nsi nit nsh nsf nss nrc jr jd mnumber mwhose msize misParted fnrc := by
  refine MI.start (by decide +kernel) (Nat.le_of_ble_eq_true rfl) ?_
  intro p e s m below meth c A ls hC hK hP hD hS hA hl
  refine absQ (fun Q0 hQ0 => ?_)
  have hl : lv_has ls 5 [(0, .ref h0), (1, .int 3), (2, .int 3), (3, .int xx)] := hl
  refine Kan8 hC (fun hx hb hr hml hB hown hlocks hnm => ?_)
  refine lv_iload_n hx hb gX12_bodyFrom_0.1 rfl (lv_at1 hl) ?_
  refine lv_istore (lv' := [(4, .int 3), (0, .ref h0), (1, .int 3), (2, .int 3), (3, .int xx)]) hx hb gX12_bodyFrom_0.2.1 hl (by decide) rfl (fun ls hl => ?_)
  refine lv_iload hx hb gX12_bodyFrom_0.2.2.1 (lv_at0 hl) ?_
  refine lv_iload_n hx hb gX12_bodyFrom_0.2.2.2.1 rfl (lv_at3 hl) ?_
  refine pS hC hK hl (m_hasOwn33 l G) si_X12_360 rfl rfl (Nat.le_of_ble_eq_true rfl) rm_44_1_2 ⟨by first | exact Nat.le_of_ble_eq_true rfl | exact Nat.zero_le _, by first | exact Nat.le_of_ble_eq_true rfl | exact Nat.zero_le _⟩ gX12_bodyFrom_0.2.2.2.2.1 (Keqr ?_)
  refine lv_if_ne (tgt := 22) hx hb gX12_bodyFrom_0.2.2.2.2.2.1 (by decide) (fun _ => ?_) (fun c9 => absurd c9 (by decide))
  refine lv_aload_n hx hb gX12_bodyFrom_1.1 rfl (lv_at1 hl) ?_
  refine lv_iload hx hb gX12_bodyFrom_1.2.1 (lv_at0 hl) ?_
  refine lv_iload_n hx hb gX12_bodyFrom_1.2.2.1 rfl (lv_at3 hl) ?_
  refine lv_iload_n hx hb gX12_bodyFrom_1.2.2.2.1 rfl (lv_at4 hl) ?_
  refine iV (wr := []) hC hK hl hP hD hS hA (m_body33 l G h0 xx nw nk mhasKept nt mtaped nr mrowMany mroundOf mroundFrom mouts nm mfromHour mtoHour ns mfrom mto msort misFault mdeep mcoded mlines nl nc nF np ntr nb mbestCost nso nsi nit nsh nsf nss nrc jr jd mnumber mwhose msize misParted fnrc (hjr) (hjd)) si_X12_363 [0, 1] [] sm_0_1 fm_0_1 nd_0_1 rfl rfl (by decide) rfl rfl rfl rfl rfl (Nat.le_of_ble_eq_true rfl) rm_44_43_6 ⟨Nat.le_of_ble_eq_true rfl, Nat.le_of_ble_eq_true rfl⟩ gX12_bodyFrom_1.2.2.2.2.1 (fun r6534 => Ktu3 fun jr16536 ip16537 gtrc6538 => ?_)
  intro H locs hr6534 hP hD hS
  try dsimp only at hr6534
  refine Kpdr (ws := [(h0, oX12 nw nk mhasKept nt mtaped nr mrowMany mroundOf mroundFrom mouts nm mfromHour mtoHour ns mfrom mto msort misFault mdeep mcoded mlines nl nc nF np ntr nb mbestCost nso nsi nit nsh nsf nss nrc (nI jr16536) (nI jd) mnumber mwhose msize ip16537), (nrc, iA G 30 gtrc6538)]) hP hD (fun hP hD => ?_)
  obtain ⟨hr6534, w6539⟩ := hr6534
  refine toQ hQ0 ?_
  exact RI (v := r6534) hC hP hD hS [0, 1] (jr16536, ip16537, gtrc6538) rfl rfl (by decide) (⟨trivial, by omega⟩) rfl gX12_bodyFrom_1.2.2.2.2.2
def K_m_body63 (l : Launch) (G : GG) (h0 : Nat) (xx : Int32) (nw : Nat) (nk : Nat) (mhasKept : Int32) (nt : Nat) (mtaped : Int32) (nr : Nat) (mrowMany : Int32) (mroundOf : Int32) (mroundFrom : Int32) (mouts : Int32) (nm : Nat) (mfromHour : Int32) (mtoHour : Int32) (ns : Nat) (mfrom : Int32) (mto : Int32) (msort : Int32) (misFault : Int32) (mdeep : Int32) (mcoded : Int32) (mlines : Int32) (nl : Nat) (nc : Nat) (nF : Nat) (np : Nat) (ntr : Nat) (nb : Nat) (mbestCost : Int32) (nso : Nat) (nsi : Nat) (nit : Nat) (nsh : Nat) (nsf : Nat) (nss : Nat) (nrc : Nat) (jr : Nat) (jd : Nat) (mnumber : Int32) (mwhose : Int32) (msize : Int32) (misParted : Int32) (fnrc : Nat → Int32) : Prop := MI l G yX12_body cX12_body 6 (some .int) 45 0 0 [.ref h0, .int 6, .int 3, .int xx] [(h0, oX12 nw nk mhasKept nt mtaped nr mrowMany mroundOf mroundFrom mouts nm mfromHour mtoHour ns mfrom mto msort misFault mdeep mcoded mlines nl nc nF np ntr nb mbestCost nso nsi nit nsh nsf nss nrc (nI jr) (nI jd) mnumber mwhose msize misParted), (nrc, iA G 30 fnrc)] (fun (r : Int32) (u : Nat × Int32 × (Nat → Int32)) => (True) ∧ (u.1 ≤ 30)) (fun u : Nat × Int32 × (Nat → Int32) => [(h0, oX12 nw nk mhasKept nt mtaped nr mrowMany mroundOf mroundFrom mouts nm mfromHour mtoHour ns mfrom mto msort misFault mdeep mcoded mlines nl nc nF np ntr nb mbestCost nso nsi nit nsh nsf nss nrc (nI u.1) (nI jd) mnumber mwhose msize u.2.1), (nrc, iA G 30 u.2.2)])
set_option maxHeartbeats 4000000 in
set_option maxRecDepth 100000 in
theorem m_body63 (l : Launch) (G : GG) (h0 : Nat) (xx : Int32) (nw : Nat) (nk : Nat) (mhasKept : Int32) (nt : Nat) (mtaped : Int32) (nr : Nat) (mrowMany : Int32) (mroundOf : Int32) (mroundFrom : Int32) (mouts : Int32) (nm : Nat) (mfromHour : Int32) (mtoHour : Int32) (ns : Nat) (mfrom : Int32) (mto : Int32) (msort : Int32) (misFault : Int32) (mdeep : Int32) (mcoded : Int32) (mlines : Int32) (nl : Nat) (nc : Nat) (nF : Nat) (np : Nat) (ntr : Nat) (nb : Nat) (mbestCost : Int32) (nso : Nat) (nsi : Nat) (nit : Nat) (nsh : Nat) (nsf : Nat) (nss : Nat) (nrc : Nat) (jr : Nat) (jd : Nat) (mnumber : Int32) (mwhose : Int32) (msize : Int32) (misParted : Int32) (fnrc : Nat → Int32) (hjr : jr ≤ 30) (hjd : jd < 7) : K_m_body63 l G h0 xx nw nk mhasKept nt mtaped nr mrowMany mroundOf mroundFrom mouts nm mfromHour mtoHour ns mfrom mto msort misFault mdeep mcoded mlines nl nc nF np ntr nb mbestCost nso nsi nit nsh nsf nss nrc jr jd mnumber mwhose msize misParted fnrc := by
  refine MI.start (by decide +kernel) (Nat.le_of_ble_eq_true rfl) ?_
  intro p e s m below meth c A ls hC hK hP hD hS hA hl
  refine absQ (fun Q0 hQ0 => ?_)
  have hl : lv_has ls 6 [(0, .ref h0), (1, .int 6), (2, .int 3), (3, .int xx)] := hl
  refine Kan8 hC (fun hx hb hr hml hB hown hlocks hnm => ?_)
  refine lv_iconst (v := 4) hx hb gX12_body_0.1 (by decide) ?_
  refine lv_iload_n hx hb gX12_body_0.2.1 rfl (lv_at1 hl) ?_
  refine lv_imul hx hb gX12_body_0.2.2.1 ?_
  refine eqi (x1 := 24) (by decide) ?_
  refine lv_iload_n hx hb gX12_body_0.2.2.2.1 rfl (lv_at2 hl) ?_
  refine lv_iadd hx hb gX12_body_0.2.2.2.2.1 ?_
  refine eqi (x1 := 27) (by decide) ?_
  refine lv_tableOut (tgt := 353) hx hb gX12_body_0.2.2.2.2.2.1 (by decide) (by decide) ?_
  refine lv_aload_n hx hb gX12_body_15.2.2.2.2.2.2.2.1 rfl (lv_at0 hl) ?_
  refine lv_bipush (v := 70) hx hb gX12_body_15.2.2.2.2.2.2.2.2.1 (by decide) ?_
  refine vV (wr := []) hC hK hl hP hD hS hA (m_began l G h0 70 nw nk mhasKept nt mtaped nr mrowMany mroundOf mroundFrom mouts nm mfromHour mtoHour ns mfrom mto msort misFault mdeep mcoded mlines nl nc nF np ntr nb mbestCost nso nsi nit nsh nsf nss nrc jr (nI jd) mnumber mwhose msize misParted fnrc (hjr)) si_X12_366 [0, 1] [] sm_0_1 fm_0_1 nd_0_1 rfl rfl (by decide) rfl rfl rfl rfl rfl (Nat.le_of_ble_eq_true rfl) rm_45_1_2 ⟨Nat.le_of_ble_eq_true rfl, Nat.le_of_ble_eq_true rfl⟩ gX12_body_15.2.2.2.2.2.2.2.2.2 (Ktu2 fun jr16542 gtrc6543 => ?_)
  intro H locs hr6540 hP hD hS
  try dsimp only at hr6540
  refine Kpdr (ws := [(h0, oX12 nw nk mhasKept nt mtaped nr mrowMany mroundOf mroundFrom mouts nm mfromHour mtoHour ns mfrom mto msort misFault mdeep mcoded mlines nl nc nF np ntr nb mbestCost nso nsi nit nsh nsf nss nrc (nI jr16542) (nI jd) mnumber mwhose msize misParted), (nrc, iA G 30 gtrc6543)]) hP hD (fun hP hD => ?_)
  have w6544 := hr6540
  refine lv_aload_n hx hb gX12_body_16.1 rfl (lv_at0 hl) ?_
  refine lv_iconst (v := 0) hx hb gX12_body_16.2.1 (by decide) ?_
  refine lv_iconst (v := 3) hx hb gX12_body_16.2.2.1 (by decide) ?_
  refine lv_iload_n hx hb gX12_body_16.2.2.2.1 rfl (lv_at3 hl) ?_
  refine iV (wr := []) hC hK hl hP hD hS hA (m_from03 l G h0 xx nw nk mhasKept nt mtaped nr mrowMany mroundOf mroundFrom mouts nm mfromHour mtoHour ns mfrom mto msort misFault mdeep mcoded mlines nl nc nF np ntr nb mbestCost nso nsi nit nsh nsf nss nrc jr16542 jd mnumber mwhose msize misParted gtrc6543 (w6544) (hjd)) si_X12_357 [0, 1] [] sm_0_1 fm_0_1 nd_0_1 rfl rfl (by decide) rfl rfl rfl rfl rfl (Nat.le_of_ble_eq_true rfl) rm_45_40_5 ⟨Nat.le_of_ble_eq_true rfl, Nat.le_of_ble_eq_true rfl⟩ gX12_body_16.2.2.2.2.1 (fun r6545 => Ktu3 fun jr16547 ip16548 gtrc6549 => ?_)
  intro H locs hr6545 hP hD hS
  try dsimp only at hr6545
  refine Kpdr (ws := [(h0, oX12 nw nk mhasKept nt mtaped nr mrowMany mroundOf mroundFrom mouts nm mfromHour mtoHour ns mfrom mto msort misFault mdeep mcoded mlines nl nc nF np ntr nb mbestCost nso nsi nit nsh nsf nss nrc (nI jr16547) (nI jd) mnumber mwhose msize ip16548), (nrc, iA G 30 gtrc6549)]) hP hD (fun hP hD => ?_)
  obtain ⟨hr6545, w6550⟩ := hr6545
  refine lv_istore (lv' := [(5, .int r6545), (0, .ref h0), (1, .int 6), (2, .int 3), (3, .int xx)]) hx hb gX12_body_16.2.2.2.2.2.1 hl (by decide) rfl (fun ls hl => ?_)
  refine lv_aload_n hx hb gX12_body_16.2.2.2.2.2.2.1 rfl (lv_at1 hl) ?_
  refine gf_X12_380 hC rfl hK hP 0 rfl rfl gX12_body_16.2.2.2.2.2.2.2.1 ?_
  refine lv_if_eq (tgt := 379) hx hb gX12_body_16.2.2.2.2.2.2.2.2.1 (by decide) (fun c_372_6551 => ?_) (fun c_372_6551 => ?_)
  · refine lv_iload hx hb gX12_body_17.2.1 (lv_at0 hl) ?_
    refine lv_aload_n hx hb gX12_body_17.2.2.1 rfl (lv_at1 hl) ?_
    refine lv_iconst (v := 0) hx hb gX12_body_17.2.2.2.1 (by decide) ?_
    refine lv_aload_n hx hb gX12_body_17.2.2.2.2.1 rfl (lv_at1 hl) ?_
    refine gf_X12_378 hC rfl hK hP 0 rfl rfl gX12_body_17.2.2.2.2.2.1 ?_
    refine iV (wr := []) hC hK hl hP hD hS hA (m_dealt0 l G h0 mnumber nw nk mhasKept nt mtaped nr mrowMany mroundOf mroundFrom mouts nm mfromHour mtoHour ns mfrom mto msort misFault mdeep mcoded mlines nl nc nF np ntr nb mbestCost nso nsi nit nsh nsf nss nrc jr16547 jd mnumber mwhose msize ip16548 gtrc6549 (w6550) (hjd)) si_X12_372 [0, 1] [] sm_0_1 fm_0_1 nd_0_1 rfl rfl (by decide) rfl rfl rfl rfl rfl (Nat.le_of_ble_eq_true rfl) rm_45_14_3 ⟨Nat.le_of_ble_eq_true rfl, Nat.le_of_ble_eq_true rfl⟩ gX12_body_17.2.2.2.2.2.2.1 (fun r6552 => Ktu3 fun jr16554 ip16555 gtrc6556 => ?_)
    intro H locs hr6552 hP hD hS
    try dsimp only at hr6552
    refine Kpdr (ws := [(h0, oX12 nw nk mhasKept nt mtaped nr mrowMany mroundOf mroundFrom mouts nm mfromHour mtoHour ns mfrom mto msort misFault mdeep mcoded mlines nl nc nF np ntr nb mbestCost nso nsi nit nsh nsf nss nrc (nI jr16554) (nI jd) mnumber mwhose msize ip16555), (nrc, iA G 30 gtrc6556)]) hP hD (fun hP hD => ?_)
    obtain ⟨hr6552, w6557⟩ := hr6552
    refine lv_isub hx hb gX12_body_17.2.2.2.2.2.2.2.1 ?_
    refine toQ hQ0 ?_
    exact RI (v := r6545 - r6552) hC hP hD hS [0, 1] (jr16554, ip16555, gtrc6556) rfl rfl (by decide) (⟨trivial, by omega⟩) rfl gX12_body_17.2.2.2.2.2.2.2.2
  · refine lv_iconst (v := 0) hx hb gX12_body_16.2.2.2.2.2.2.2.2.2 (by decide) ?_
    refine lv_goto (tgt := 391) hx hb gX12_body_17.1 (by decide) ?_
    refine toQ hQ0 ?_
    exact RI (v := 0) hC hP hD hS [0, 1] (jr16547, ip16548, gtrc6549) rfl rfl (by decide) (⟨trivial, by omega⟩) rfl gX12_body_17.2.2.2.2.2.2.2.2
def K_m_from63 (l : Launch) (G : GG) (h0 : Nat) (xx : Int32) (nw : Nat) (nk : Nat) (mhasKept : Int32) (nt : Nat) (mtaped : Int32) (nr : Nat) (mrowMany : Int32) (mroundOf : Int32) (mroundFrom : Int32) (mouts : Int32) (nm : Nat) (mfromHour : Int32) (mtoHour : Int32) (ns : Nat) (mfrom : Int32) (mto : Int32) (msort : Int32) (misFault : Int32) (mdeep : Int32) (mcoded : Int32) (mlines : Int32) (nl : Nat) (nc : Nat) (nF : Nat) (np : Nat) (ntr : Nat) (nb : Nat) (mbestCost : Int32) (nso : Nat) (nsi : Nat) (nit : Nat) (nsh : Nat) (nsf : Nat) (nss : Nat) (nrc : Nat) (jr : Nat) (jd : Nat) (mnumber : Int32) (mwhose : Int32) (msize : Int32) (misParted : Int32) (fnrc : Nat → Int32) : Prop := MI l G yX12_bodyFrom cX12_bodyFrom 5 (some .int) 46 0 0 [.ref h0, .int 6, .int 3, .int xx] [(h0, oX12 nw nk mhasKept nt mtaped nr mrowMany mroundOf mroundFrom mouts nm mfromHour mtoHour ns mfrom mto msort misFault mdeep mcoded mlines nl nc nF np ntr nb mbestCost nso nsi nit nsh nsf nss nrc (nI jr) (nI jd) mnumber mwhose msize misParted), (nrc, iA G 30 fnrc)] (fun (r : Int32) (u : Nat × Int32 × (Nat → Int32)) => (True) ∧ (u.1 ≤ 30)) (fun u : Nat × Int32 × (Nat → Int32) => [(h0, oX12 nw nk mhasKept nt mtaped nr mrowMany mroundOf mroundFrom mouts nm mfromHour mtoHour ns mfrom mto msort misFault mdeep mcoded mlines nl nc nF np ntr nb mbestCost nso nsi nit nsh nsf nss nrc (nI u.1) (nI jd) mnumber mwhose msize u.2.1), (nrc, iA G 30 u.2.2)])
set_option maxHeartbeats 4000000 in
set_option maxRecDepth 100000 in
theorem m_from63 (l : Launch) (G : GG) (h0 : Nat) (xx : Int32) (nw : Nat) (nk : Nat) (mhasKept : Int32) (nt : Nat) (mtaped : Int32) (nr : Nat) (mrowMany : Int32) (mroundOf : Int32) (mroundFrom : Int32) (mouts : Int32) (nm : Nat) (mfromHour : Int32) (mtoHour : Int32) (ns : Nat) (mfrom : Int32) (mto : Int32) (msort : Int32) (misFault : Int32) (mdeep : Int32) (mcoded : Int32) (mlines : Int32) (nl : Nat) (nc : Nat) (nF : Nat) (np : Nat) (ntr : Nat) (nb : Nat) (mbestCost : Int32) (nso : Nat) (nsi : Nat) (nit : Nat) (nsh : Nat) (nsf : Nat) (nss : Nat) (nrc : Nat) (jr : Nat) (jd : Nat) (mnumber : Int32) (mwhose : Int32) (msize : Int32) (misParted : Int32) (fnrc : Nat → Int32) (hjr : jr ≤ 30) (hjd : jd < 7) : K_m_from63 l G h0 xx nw nk mhasKept nt mtaped nr mrowMany mroundOf mroundFrom mouts nm mfromHour mtoHour ns mfrom mto msort misFault mdeep mcoded mlines nl nc nF np ntr nb mbestCost nso nsi nit nsh nsf nss nrc jr jd mnumber mwhose msize misParted fnrc := by
  refine MI.start (by decide +kernel) (Nat.le_of_ble_eq_true rfl) ?_
  intro p e s m below meth c A ls hC hK hP hD hS hA hl
  refine absQ (fun Q0 hQ0 => ?_)
  have hl : lv_has ls 5 [(0, .ref h0), (1, .int 6), (2, .int 3), (3, .int xx)] := hl
  refine Kan8 hC (fun hx hb hr hml hB hown hlocks hnm => ?_)
  refine lv_iload_n hx hb gX12_bodyFrom_0.1 rfl (lv_at1 hl) ?_
  refine lv_istore (lv' := [(4, .int 6), (0, .ref h0), (1, .int 6), (2, .int 3), (3, .int xx)]) hx hb gX12_bodyFrom_0.2.1 hl (by decide) rfl (fun ls hl => ?_)
  refine lv_iload hx hb gX12_bodyFrom_0.2.2.1 (lv_at0 hl) ?_
  refine lv_iload_n hx hb gX12_bodyFrom_0.2.2.2.1 rfl (lv_at3 hl) ?_
  refine pS hC hK hl (m_hasOwn63 l G) si_X12_360 rfl rfl (Nat.le_of_ble_eq_true rfl) rm_46_1_2 ⟨by first | exact Nat.le_of_ble_eq_true rfl | exact Nat.zero_le _, by first | exact Nat.le_of_ble_eq_true rfl | exact Nat.zero_le _⟩ gX12_bodyFrom_0.2.2.2.2.1 (Keqr ?_)
  refine lv_if_ne (tgt := 22) hx hb gX12_bodyFrom_0.2.2.2.2.2.1 (by decide) (fun _ => ?_) (fun c9 => absurd c9 (by decide))
  refine lv_aload_n hx hb gX12_bodyFrom_1.1 rfl (lv_at1 hl) ?_
  refine lv_iload hx hb gX12_bodyFrom_1.2.1 (lv_at0 hl) ?_
  refine lv_iload_n hx hb gX12_bodyFrom_1.2.2.1 rfl (lv_at3 hl) ?_
  refine lv_iload_n hx hb gX12_bodyFrom_1.2.2.2.1 rfl (lv_at4 hl) ?_
  refine iV (wr := []) hC hK hl hP hD hS hA (m_body63 l G h0 xx nw nk mhasKept nt mtaped nr mrowMany mroundOf mroundFrom mouts nm mfromHour mtoHour ns mfrom mto msort misFault mdeep mcoded mlines nl nc nF np ntr nb mbestCost nso nsi nit nsh nsf nss nrc jr jd mnumber mwhose msize misParted fnrc (hjr) (hjd)) si_X12_363 [0, 1] [] sm_0_1 fm_0_1 nd_0_1 rfl rfl (by decide) rfl rfl rfl rfl rfl (Nat.le_of_ble_eq_true rfl) rm_46_45_6 ⟨Nat.le_of_ble_eq_true rfl, Nat.le_of_ble_eq_true rfl⟩ gX12_bodyFrom_1.2.2.2.2.1 (fun r6560 => Ktu3 fun jr16562 ip16563 gtrc6564 => ?_)
  intro H locs hr6560 hP hD hS
  try dsimp only at hr6560
  refine Kpdr (ws := [(h0, oX12 nw nk mhasKept nt mtaped nr mrowMany mroundOf mroundFrom mouts nm mfromHour mtoHour ns mfrom mto msort misFault mdeep mcoded mlines nl nc nF np ntr nb mbestCost nso nsi nit nsh nsf nss nrc (nI jr16562) (nI jd) mnumber mwhose msize ip16563), (nrc, iA G 30 gtrc6564)]) hP hD (fun hP hD => ?_)
  obtain ⟨hr6560, w6565⟩ := hr6560
  refine toQ hQ0 ?_
  exact RI (v := r6560) hC hP hD hS [0, 1] (jr16562, ip16563, gtrc6564) rfl rfl (by decide) (⟨trivial, by omega⟩) rfl gX12_bodyFrom_1.2.2.2.2.2
def K_m_from23 (l : Launch) (G : GG) (h0 : Nat) (xx : Int32) (nw : Nat) (nk : Nat) (mhasKept : Int32) (nt : Nat) (mtaped : Int32) (nr : Nat) (mrowMany : Int32) (mroundOf : Int32) (mroundFrom : Int32) (mouts : Int32) (nm : Nat) (mfromHour : Int32) (mtoHour : Int32) (ns : Nat) (mfrom : Int32) (mto : Int32) (msort : Int32) (misFault : Int32) (mdeep : Int32) (mcoded : Int32) (mlines : Int32) (nl : Nat) (nc : Nat) (nF : Nat) (np : Nat) (ntr : Nat) (nb : Nat) (mbestCost : Int32) (nso : Nat) (nsi : Nat) (nit : Nat) (nsh : Nat) (nsf : Nat) (nss : Nat) (nrc : Nat) (jr : Nat) (jd : Nat) (mnumber : Int32) (mwhose : Int32) (msize : Int32) (misParted : Int32) (fnrc : Nat → Int32) : Prop := MI l G yX12_bodyFrom cX12_bodyFrom 5 (some .int) 48 0 0 [.ref h0, .int 2, .int 3, .int xx] [(h0, oX12 nw nk mhasKept nt mtaped nr mrowMany mroundOf mroundFrom mouts nm mfromHour mtoHour ns mfrom mto msort misFault mdeep mcoded mlines nl nc nF np ntr nb mbestCost nso nsi nit nsh nsf nss nrc (nI jr) (nI jd) mnumber mwhose msize misParted), (nrc, iA G 30 fnrc)] (fun (r : Int32) (u : Nat × Int32 × (Nat → Int32)) => (True) ∧ (u.1 ≤ 30)) (fun u : Nat × Int32 × (Nat → Int32) => [(h0, oX12 nw nk mhasKept nt mtaped nr mrowMany mroundOf mroundFrom mouts nm mfromHour mtoHour ns mfrom mto msort misFault mdeep mcoded mlines nl nc nF np ntr nb mbestCost nso nsi nit nsh nsf nss nrc (nI u.1) (nI jd) mnumber mwhose msize u.2.1), (nrc, iA G 30 u.2.2)])
set_option maxHeartbeats 4000000 in
set_option maxRecDepth 100000 in
theorem m_from23 (l : Launch) (G : GG) (h0 : Nat) (xx : Int32) (nw : Nat) (nk : Nat) (mhasKept : Int32) (nt : Nat) (mtaped : Int32) (nr : Nat) (mrowMany : Int32) (mroundOf : Int32) (mroundFrom : Int32) (mouts : Int32) (nm : Nat) (mfromHour : Int32) (mtoHour : Int32) (ns : Nat) (mfrom : Int32) (mto : Int32) (msort : Int32) (misFault : Int32) (mdeep : Int32) (mcoded : Int32) (mlines : Int32) (nl : Nat) (nc : Nat) (nF : Nat) (np : Nat) (ntr : Nat) (nb : Nat) (mbestCost : Int32) (nso : Nat) (nsi : Nat) (nit : Nat) (nsh : Nat) (nsf : Nat) (nss : Nat) (nrc : Nat) (jr : Nat) (jd : Nat) (mnumber : Int32) (mwhose : Int32) (msize : Int32) (misParted : Int32) (fnrc : Nat → Int32) (hjr : jr ≤ 30) (hjd : jd < 7) : K_m_from23 l G h0 xx nw nk mhasKept nt mtaped nr mrowMany mroundOf mroundFrom mouts nm mfromHour mtoHour ns mfrom mto msort misFault mdeep mcoded mlines nl nc nF np ntr nb mbestCost nso nsi nit nsh nsf nss nrc jr jd mnumber mwhose msize misParted fnrc := by
  refine MI.start (by decide +kernel) (Nat.le_of_ble_eq_true rfl) ?_
  intro p e s m below meth c A ls hC hK hP hD hS hA hl
  refine absQ (fun Q0 hQ0 => ?_)
  have hl : lv_has ls 5 [(0, .ref h0), (1, .int 2), (2, .int 3), (3, .int xx)] := hl
  refine Kan8 hC (fun hx hb hr hml hB hown hlocks hnm => ?_)
  refine lv_iload_n hx hb gX12_bodyFrom_0.1 rfl (lv_at1 hl) ?_
  refine lv_istore (lv' := [(4, .int 2), (0, .ref h0), (1, .int 2), (2, .int 3), (3, .int xx)]) hx hb gX12_bodyFrom_0.2.1 hl (by decide) rfl (fun ls hl => ?_)
  refine lv_iload hx hb gX12_bodyFrom_0.2.2.1 (lv_at0 hl) ?_
  refine lv_iload_n hx hb gX12_bodyFrom_0.2.2.2.1 rfl (lv_at3 hl) ?_
  refine pS hC hK hl (m_hasOwn23 l G) si_X12_360 rfl rfl (Nat.le_of_ble_eq_true rfl) rm_48_1_2 ⟨by first | exact Nat.le_of_ble_eq_true rfl | exact Nat.zero_le _, by first | exact Nat.le_of_ble_eq_true rfl | exact Nat.zero_le _⟩ gX12_bodyFrom_0.2.2.2.2.1 (Keqr ?_)
  refine lv_if_ne (tgt := 22) hx hb gX12_bodyFrom_0.2.2.2.2.2.1 (by decide) (fun c9 => absurd (by decide) c9) (fun _ => ?_)
  refine lv_iload hx hb gX12_bodyFrom_0.2.2.2.2.2.2.1 (lv_at0 hl) ?_
  refine pS hC hK hl (m_above2 l G) si_X12_348 rfl rfl (Nat.le_of_ble_eq_true rfl) rm_48_1_1 ⟨by first | exact Nat.le_of_ble_eq_true rfl | exact Nat.zero_le _, by first | exact Nat.le_of_ble_eq_true rfl | exact Nat.zero_le _⟩ gX12_bodyFrom_0.2.2.2.2.2.2.2.1 (Keqr ?_)
  refine lv_istore (lv' := [(4, .int 0), (0, .ref h0), (1, .int 2), (2, .int 3), (3, .int xx)]) hx hb gX12_bodyFrom_0.2.2.2.2.2.2.2.2.1 hl (by decide) rfl (fun ls hl => ?_)
  refine lv_goto (tgt := 3) hx hb gX12_bodyFrom_0.2.2.2.2.2.2.2.2.2 (by decide) ?_
  refine lv_iload hx hb gX12_bodyFrom_0.2.2.1 (lv_at0 hl) ?_
  refine lv_iload_n hx hb gX12_bodyFrom_0.2.2.2.1 rfl (lv_at3 hl) ?_
  refine pS hC hK hl (m_hasOwn03 l G) si_X12_360 rfl rfl (Nat.le_of_ble_eq_true rfl) rm_48_1_2 ⟨by first | exact Nat.le_of_ble_eq_true rfl | exact Nat.zero_le _, by first | exact Nat.le_of_ble_eq_true rfl | exact Nat.zero_le _⟩ gX12_bodyFrom_0.2.2.2.2.1 (Keqr ?_)
  refine lv_if_ne (tgt := 22) hx hb gX12_bodyFrom_0.2.2.2.2.2.1 (by decide) (fun _ => ?_) (fun c9 => absurd c9 (by decide))
  refine lv_aload_n hx hb gX12_bodyFrom_1.1 rfl (lv_at1 hl) ?_
  refine lv_iload hx hb gX12_bodyFrom_1.2.1 (lv_at0 hl) ?_
  refine lv_iload_n hx hb gX12_bodyFrom_1.2.2.1 rfl (lv_at3 hl) ?_
  refine lv_iload_n hx hb gX12_bodyFrom_1.2.2.2.1 rfl (lv_at4 hl) ?_
  refine iV (wr := []) hC hK hl hP hD hS hA (m_body03 l G h0 xx nw nk mhasKept nt mtaped nr mrowMany mroundOf mroundFrom mouts nm mfromHour mtoHour ns mfrom mto msort misFault mdeep mcoded mlines nl nc nF np ntr nb mbestCost nso nsi nit nsh nsf nss nrc jr jd mnumber mwhose msize misParted fnrc (hjr) (hjd)) si_X12_363 [0, 1] [] sm_0_1 fm_0_1 nd_0_1 rfl rfl (by decide) rfl rfl rfl rfl rfl (Nat.le_of_ble_eq_true rfl) rm_48_39_6 ⟨Nat.le_of_ble_eq_true rfl, Nat.le_of_ble_eq_true rfl⟩ gX12_bodyFrom_1.2.2.2.2.1 (fun r6572 => Ktu3 fun jr16574 ip16575 gtrc6576 => ?_)
  intro H locs hr6572 hP hD hS
  try dsimp only at hr6572
  refine Kpdr (ws := [(h0, oX12 nw nk mhasKept nt mtaped nr mrowMany mroundOf mroundFrom mouts nm mfromHour mtoHour ns mfrom mto msort misFault mdeep mcoded mlines nl nc nF np ntr nb mbestCost nso nsi nit nsh nsf nss nrc (nI jr16574) (nI jd) mnumber mwhose msize ip16575), (nrc, iA G 30 gtrc6576)]) hP hD (fun hP hD => ?_)
  obtain ⟨hr6572, w6577⟩ := hr6572
  refine toQ hQ0 ?_
  exact RI (v := r6572) hC hP hD hS [0, 1] (jr16574, ip16575, gtrc6576) rfl rfl (by decide) (⟨trivial, by omega⟩) rfl gX12_bodyFrom_1.2.2.2.2.2
def K_m_from43 (l : Launch) (G : GG) (h0 : Nat) (xx : Int32) (nw : Nat) (nk : Nat) (mhasKept : Int32) (nt : Nat) (mtaped : Int32) (nr : Nat) (mrowMany : Int32) (mroundOf : Int32) (mroundFrom : Int32) (mouts : Int32) (nm : Nat) (mfromHour : Int32) (mtoHour : Int32) (ns : Nat) (mfrom : Int32) (mto : Int32) (msort : Int32) (misFault : Int32) (mdeep : Int32) (mcoded : Int32) (mlines : Int32) (nl : Nat) (nc : Nat) (nF : Nat) (np : Nat) (ntr : Nat) (nb : Nat) (mbestCost : Int32) (nso : Nat) (nsi : Nat) (nit : Nat) (nsh : Nat) (nsf : Nat) (nss : Nat) (nrc : Nat) (jr : Nat) (jd : Nat) (mnumber : Int32) (mwhose : Int32) (msize : Int32) (misParted : Int32) (fnrc : Nat → Int32) : Prop := MI l G yX12_bodyFrom cX12_bodyFrom 5 (some .int) 48 0 0 [.ref h0, .int 4, .int 3, .int xx] [(h0, oX12 nw nk mhasKept nt mtaped nr mrowMany mroundOf mroundFrom mouts nm mfromHour mtoHour ns mfrom mto msort misFault mdeep mcoded mlines nl nc nF np ntr nb mbestCost nso nsi nit nsh nsf nss nrc (nI jr) (nI jd) mnumber mwhose msize misParted), (nrc, iA G 30 fnrc)] (fun (r : Int32) (u : Nat × Int32 × (Nat → Int32)) => (True) ∧ (u.1 ≤ 30)) (fun u : Nat × Int32 × (Nat → Int32) => [(h0, oX12 nw nk mhasKept nt mtaped nr mrowMany mroundOf mroundFrom mouts nm mfromHour mtoHour ns mfrom mto msort misFault mdeep mcoded mlines nl nc nF np ntr nb mbestCost nso nsi nit nsh nsf nss nrc (nI u.1) (nI jd) mnumber mwhose msize u.2.1), (nrc, iA G 30 u.2.2)])
set_option maxHeartbeats 4000000 in
set_option maxRecDepth 100000 in
theorem m_from43 (l : Launch) (G : GG) (h0 : Nat) (xx : Int32) (nw : Nat) (nk : Nat) (mhasKept : Int32) (nt : Nat) (mtaped : Int32) (nr : Nat) (mrowMany : Int32) (mroundOf : Int32) (mroundFrom : Int32) (mouts : Int32) (nm : Nat) (mfromHour : Int32) (mtoHour : Int32) (ns : Nat) (mfrom : Int32) (mto : Int32) (msort : Int32) (misFault : Int32) (mdeep : Int32) (mcoded : Int32) (mlines : Int32) (nl : Nat) (nc : Nat) (nF : Nat) (np : Nat) (ntr : Nat) (nb : Nat) (mbestCost : Int32) (nso : Nat) (nsi : Nat) (nit : Nat) (nsh : Nat) (nsf : Nat) (nss : Nat) (nrc : Nat) (jr : Nat) (jd : Nat) (mnumber : Int32) (mwhose : Int32) (msize : Int32) (misParted : Int32) (fnrc : Nat → Int32) (hjr : jr ≤ 30) (hjd : jd < 7) : K_m_from43 l G h0 xx nw nk mhasKept nt mtaped nr mrowMany mroundOf mroundFrom mouts nm mfromHour mtoHour ns mfrom mto msort misFault mdeep mcoded mlines nl nc nF np ntr nb mbestCost nso nsi nit nsh nsf nss nrc jr jd mnumber mwhose msize misParted fnrc := by
  refine MI.start (by decide +kernel) (Nat.le_of_ble_eq_true rfl) ?_
  intro p e s m below meth c A ls hC hK hP hD hS hA hl
  refine absQ (fun Q0 hQ0 => ?_)
  have hl : lv_has ls 5 [(0, .ref h0), (1, .int 4), (2, .int 3), (3, .int xx)] := hl
  refine Kan8 hC (fun hx hb hr hml hB hown hlocks hnm => ?_)
  refine lv_iload_n hx hb gX12_bodyFrom_0.1 rfl (lv_at1 hl) ?_
  refine lv_istore (lv' := [(4, .int 4), (0, .ref h0), (1, .int 4), (2, .int 3), (3, .int xx)]) hx hb gX12_bodyFrom_0.2.1 hl (by decide) rfl (fun ls hl => ?_)
  refine lv_iload hx hb gX12_bodyFrom_0.2.2.1 (lv_at0 hl) ?_
  refine lv_iload_n hx hb gX12_bodyFrom_0.2.2.2.1 rfl (lv_at3 hl) ?_
  refine pS hC hK hl (m_hasOwn43 l G) si_X12_360 rfl rfl (Nat.le_of_ble_eq_true rfl) rm_48_1_2 ⟨by first | exact Nat.le_of_ble_eq_true rfl | exact Nat.zero_le _, by first | exact Nat.le_of_ble_eq_true rfl | exact Nat.zero_le _⟩ gX12_bodyFrom_0.2.2.2.2.1 (Keqr ?_)
  refine lv_if_ne (tgt := 22) hx hb gX12_bodyFrom_0.2.2.2.2.2.1 (by decide) (fun c9 => absurd (by decide) c9) (fun _ => ?_)
  refine lv_iload hx hb gX12_bodyFrom_0.2.2.2.2.2.2.1 (lv_at0 hl) ?_
  refine pS hC hK hl (m_above4 l G) si_X12_348 rfl rfl (Nat.le_of_ble_eq_true rfl) rm_48_1_1 ⟨by first | exact Nat.le_of_ble_eq_true rfl | exact Nat.zero_le _, by first | exact Nat.le_of_ble_eq_true rfl | exact Nat.zero_le _⟩ gX12_bodyFrom_0.2.2.2.2.2.2.2.1 (Keqr ?_)
  refine lv_istore (lv' := [(4, .int 0), (0, .ref h0), (1, .int 4), (2, .int 3), (3, .int xx)]) hx hb gX12_bodyFrom_0.2.2.2.2.2.2.2.2.1 hl (by decide) rfl (fun ls hl => ?_)
  refine lv_goto (tgt := 3) hx hb gX12_bodyFrom_0.2.2.2.2.2.2.2.2.2 (by decide) ?_
  refine lv_iload hx hb gX12_bodyFrom_0.2.2.1 (lv_at0 hl) ?_
  refine lv_iload_n hx hb gX12_bodyFrom_0.2.2.2.1 rfl (lv_at3 hl) ?_
  refine pS hC hK hl (m_hasOwn03 l G) si_X12_360 rfl rfl (Nat.le_of_ble_eq_true rfl) rm_48_1_2 ⟨by first | exact Nat.le_of_ble_eq_true rfl | exact Nat.zero_le _, by first | exact Nat.le_of_ble_eq_true rfl | exact Nat.zero_le _⟩ gX12_bodyFrom_0.2.2.2.2.1 (Keqr ?_)
  refine lv_if_ne (tgt := 22) hx hb gX12_bodyFrom_0.2.2.2.2.2.1 (by decide) (fun _ => ?_) (fun c9 => absurd c9 (by decide))
  refine lv_aload_n hx hb gX12_bodyFrom_1.1 rfl (lv_at1 hl) ?_
  refine lv_iload hx hb gX12_bodyFrom_1.2.1 (lv_at0 hl) ?_
  refine lv_iload_n hx hb gX12_bodyFrom_1.2.2.1 rfl (lv_at3 hl) ?_
  refine lv_iload_n hx hb gX12_bodyFrom_1.2.2.2.1 rfl (lv_at4 hl) ?_
  refine iV (wr := []) hC hK hl hP hD hS hA (m_body03 l G h0 xx nw nk mhasKept nt mtaped nr mrowMany mroundOf mroundFrom mouts nm mfromHour mtoHour ns mfrom mto msort misFault mdeep mcoded mlines nl nc nF np ntr nb mbestCost nso nsi nit nsh nsf nss nrc jr jd mnumber mwhose msize misParted fnrc (hjr) (hjd)) si_X12_363 [0, 1] [] sm_0_1 fm_0_1 nd_0_1 rfl rfl (by decide) rfl rfl rfl rfl rfl (Nat.le_of_ble_eq_true rfl) rm_48_39_6 ⟨Nat.le_of_ble_eq_true rfl, Nat.le_of_ble_eq_true rfl⟩ gX12_bodyFrom_1.2.2.2.2.1 (fun r6584 => Ktu3 fun jr16586 ip16587 gtrc6588 => ?_)
  intro H locs hr6584 hP hD hS
  try dsimp only at hr6584
  refine Kpdr (ws := [(h0, oX12 nw nk mhasKept nt mtaped nr mrowMany mroundOf mroundFrom mouts nm mfromHour mtoHour ns mfrom mto msort misFault mdeep mcoded mlines nl nc nF np ntr nb mbestCost nso nsi nit nsh nsf nss nrc (nI jr16586) (nI jd) mnumber mwhose msize ip16587), (nrc, iA G 30 gtrc6588)]) hP hD (fun hP hD => ?_)
  obtain ⟨hr6584, w6589⟩ := hr6584
  refine toQ hQ0 ?_
  exact RI (v := r6584) hC hP hD hS [0, 1] (jr16586, ip16587, gtrc6588) rfl rfl (by decide) (⟨trivial, by omega⟩) rfl gX12_bodyFrom_1.2.2.2.2.2
def K_m_from53 (l : Launch) (G : GG) (h0 : Nat) (xx : Int32) (nw : Nat) (nk : Nat) (mhasKept : Int32) (nt : Nat) (mtaped : Int32) (nr : Nat) (mrowMany : Int32) (mroundOf : Int32) (mroundFrom : Int32) (mouts : Int32) (nm : Nat) (mfromHour : Int32) (mtoHour : Int32) (ns : Nat) (mfrom : Int32) (mto : Int32) (msort : Int32) (misFault : Int32) (mdeep : Int32) (mcoded : Int32) (mlines : Int32) (nl : Nat) (nc : Nat) (nF : Nat) (np : Nat) (ntr : Nat) (nb : Nat) (mbestCost : Int32) (nso : Nat) (nsi : Nat) (nit : Nat) (nsh : Nat) (nsf : Nat) (nss : Nat) (nrc : Nat) (jr : Nat) (jd : Nat) (mnumber : Int32) (mwhose : Int32) (msize : Int32) (misParted : Int32) (fnrc : Nat → Int32) : Prop := MI l G yX12_bodyFrom cX12_bodyFrom 5 (some .int) 48 0 0 [.ref h0, .int 5, .int 3, .int xx] [(h0, oX12 nw nk mhasKept nt mtaped nr mrowMany mroundOf mroundFrom mouts nm mfromHour mtoHour ns mfrom mto msort misFault mdeep mcoded mlines nl nc nF np ntr nb mbestCost nso nsi nit nsh nsf nss nrc (nI jr) (nI jd) mnumber mwhose msize misParted), (nrc, iA G 30 fnrc)] (fun (r : Int32) (u : Nat × Int32 × (Nat → Int32)) => (True) ∧ (u.1 ≤ 30)) (fun u : Nat × Int32 × (Nat → Int32) => [(h0, oX12 nw nk mhasKept nt mtaped nr mrowMany mroundOf mroundFrom mouts nm mfromHour mtoHour ns mfrom mto msort misFault mdeep mcoded mlines nl nc nF np ntr nb mbestCost nso nsi nit nsh nsf nss nrc (nI u.1) (nI jd) mnumber mwhose msize u.2.1), (nrc, iA G 30 u.2.2)])
set_option maxHeartbeats 4000000 in
set_option maxRecDepth 100000 in
theorem m_from53 (l : Launch) (G : GG) (h0 : Nat) (xx : Int32) (nw : Nat) (nk : Nat) (mhasKept : Int32) (nt : Nat) (mtaped : Int32) (nr : Nat) (mrowMany : Int32) (mroundOf : Int32) (mroundFrom : Int32) (mouts : Int32) (nm : Nat) (mfromHour : Int32) (mtoHour : Int32) (ns : Nat) (mfrom : Int32) (mto : Int32) (msort : Int32) (misFault : Int32) (mdeep : Int32) (mcoded : Int32) (mlines : Int32) (nl : Nat) (nc : Nat) (nF : Nat) (np : Nat) (ntr : Nat) (nb : Nat) (mbestCost : Int32) (nso : Nat) (nsi : Nat) (nit : Nat) (nsh : Nat) (nsf : Nat) (nss : Nat) (nrc : Nat) (jr : Nat) (jd : Nat) (mnumber : Int32) (mwhose : Int32) (msize : Int32) (misParted : Int32) (fnrc : Nat → Int32) (hjr : jr ≤ 30) (hjd : jd < 7) : K_m_from53 l G h0 xx nw nk mhasKept nt mtaped nr mrowMany mroundOf mroundFrom mouts nm mfromHour mtoHour ns mfrom mto msort misFault mdeep mcoded mlines nl nc nF np ntr nb mbestCost nso nsi nit nsh nsf nss nrc jr jd mnumber mwhose msize misParted fnrc := by
  refine MI.start (by decide +kernel) (Nat.le_of_ble_eq_true rfl) ?_
  intro p e s m below meth c A ls hC hK hP hD hS hA hl
  refine absQ (fun Q0 hQ0 => ?_)
  have hl : lv_has ls 5 [(0, .ref h0), (1, .int 5), (2, .int 3), (3, .int xx)] := hl
  refine Kan8 hC (fun hx hb hr hml hB hown hlocks hnm => ?_)
  refine lv_iload_n hx hb gX12_bodyFrom_0.1 rfl (lv_at1 hl) ?_
  refine lv_istore (lv' := [(4, .int 5), (0, .ref h0), (1, .int 5), (2, .int 3), (3, .int xx)]) hx hb gX12_bodyFrom_0.2.1 hl (by decide) rfl (fun ls hl => ?_)
  refine lv_iload hx hb gX12_bodyFrom_0.2.2.1 (lv_at0 hl) ?_
  refine lv_iload_n hx hb gX12_bodyFrom_0.2.2.2.1 rfl (lv_at3 hl) ?_
  refine pS hC hK hl (m_hasOwn53 l G) si_X12_360 rfl rfl (Nat.le_of_ble_eq_true rfl) rm_48_1_2 ⟨by first | exact Nat.le_of_ble_eq_true rfl | exact Nat.zero_le _, by first | exact Nat.le_of_ble_eq_true rfl | exact Nat.zero_le _⟩ gX12_bodyFrom_0.2.2.2.2.1 (Keqr ?_)
  refine lv_if_ne (tgt := 22) hx hb gX12_bodyFrom_0.2.2.2.2.2.1 (by decide) (fun c9 => absurd (by decide) c9) (fun _ => ?_)
  refine lv_iload hx hb gX12_bodyFrom_0.2.2.2.2.2.2.1 (lv_at0 hl) ?_
  refine pS hC hK hl (m_above5 l G) si_X12_348 rfl rfl (Nat.le_of_ble_eq_true rfl) rm_48_1_1 ⟨by first | exact Nat.le_of_ble_eq_true rfl | exact Nat.zero_le _, by first | exact Nat.le_of_ble_eq_true rfl | exact Nat.zero_le _⟩ gX12_bodyFrom_0.2.2.2.2.2.2.2.1 (Keqr ?_)
  refine lv_istore (lv' := [(4, .int 4), (0, .ref h0), (1, .int 5), (2, .int 3), (3, .int xx)]) hx hb gX12_bodyFrom_0.2.2.2.2.2.2.2.2.1 hl (by decide) rfl (fun ls hl => ?_)
  refine lv_goto (tgt := 3) hx hb gX12_bodyFrom_0.2.2.2.2.2.2.2.2.2 (by decide) ?_
  refine lv_iload hx hb gX12_bodyFrom_0.2.2.1 (lv_at0 hl) ?_
  refine lv_iload_n hx hb gX12_bodyFrom_0.2.2.2.1 rfl (lv_at3 hl) ?_
  refine pS hC hK hl (m_hasOwn43 l G) si_X12_360 rfl rfl (Nat.le_of_ble_eq_true rfl) rm_48_1_2 ⟨by first | exact Nat.le_of_ble_eq_true rfl | exact Nat.zero_le _, by first | exact Nat.le_of_ble_eq_true rfl | exact Nat.zero_le _⟩ gX12_bodyFrom_0.2.2.2.2.1 (Keqr ?_)
  refine lv_if_ne (tgt := 22) hx hb gX12_bodyFrom_0.2.2.2.2.2.1 (by decide) (fun c9 => absurd (by decide) c9) (fun _ => ?_)
  refine lv_iload hx hb gX12_bodyFrom_0.2.2.2.2.2.2.1 (lv_at0 hl) ?_
  refine pS hC hK hl (m_above4 l G) si_X12_348 rfl rfl (Nat.le_of_ble_eq_true rfl) rm_48_1_1 ⟨by first | exact Nat.le_of_ble_eq_true rfl | exact Nat.zero_le _, by first | exact Nat.le_of_ble_eq_true rfl | exact Nat.zero_le _⟩ gX12_bodyFrom_0.2.2.2.2.2.2.2.1 (Keqr ?_)
  refine lv_istore (lv' := [(4, .int 0), (0, .ref h0), (1, .int 5), (2, .int 3), (3, .int xx)]) hx hb gX12_bodyFrom_0.2.2.2.2.2.2.2.2.1 hl (by decide) rfl (fun ls hl => ?_)
  refine lv_goto (tgt := 3) hx hb gX12_bodyFrom_0.2.2.2.2.2.2.2.2.2 (by decide) ?_
  refine lv_iload hx hb gX12_bodyFrom_0.2.2.1 (lv_at0 hl) ?_
  refine lv_iload_n hx hb gX12_bodyFrom_0.2.2.2.1 rfl (lv_at3 hl) ?_
  refine pS hC hK hl (m_hasOwn03 l G) si_X12_360 rfl rfl (Nat.le_of_ble_eq_true rfl) rm_48_1_2 ⟨by first | exact Nat.le_of_ble_eq_true rfl | exact Nat.zero_le _, by first | exact Nat.le_of_ble_eq_true rfl | exact Nat.zero_le _⟩ gX12_bodyFrom_0.2.2.2.2.1 (Keqr ?_)
  refine lv_if_ne (tgt := 22) hx hb gX12_bodyFrom_0.2.2.2.2.2.1 (by decide) (fun _ => ?_) (fun c9 => absurd c9 (by decide))
  refine lv_aload_n hx hb gX12_bodyFrom_1.1 rfl (lv_at1 hl) ?_
  refine lv_iload hx hb gX12_bodyFrom_1.2.1 (lv_at0 hl) ?_
  refine lv_iload_n hx hb gX12_bodyFrom_1.2.2.1 rfl (lv_at3 hl) ?_
  refine lv_iload_n hx hb gX12_bodyFrom_1.2.2.2.1 rfl (lv_at4 hl) ?_
  refine iV (wr := []) hC hK hl hP hD hS hA (m_body03 l G h0 xx nw nk mhasKept nt mtaped nr mrowMany mroundOf mroundFrom mouts nm mfromHour mtoHour ns mfrom mto msort misFault mdeep mcoded mlines nl nc nF np ntr nb mbestCost nso nsi nit nsh nsf nss nrc jr jd mnumber mwhose msize misParted fnrc (hjr) (hjd)) si_X12_363 [0, 1] [] sm_0_1 fm_0_1 nd_0_1 rfl rfl (by decide) rfl rfl rfl rfl rfl (Nat.le_of_ble_eq_true rfl) rm_48_39_6 ⟨Nat.le_of_ble_eq_true rfl, Nat.le_of_ble_eq_true rfl⟩ gX12_bodyFrom_1.2.2.2.2.1 (fun r6600 => Ktu3 fun jr16602 ip16603 gtrc6604 => ?_)
  intro H locs hr6600 hP hD hS
  try dsimp only at hr6600
  refine Kpdr (ws := [(h0, oX12 nw nk mhasKept nt mtaped nr mrowMany mroundOf mroundFrom mouts nm mfromHour mtoHour ns mfrom mto msort misFault mdeep mcoded mlines nl nc nF np ntr nb mbestCost nso nsi nit nsh nsf nss nrc (nI jr16602) (nI jd) mnumber mwhose msize ip16603), (nrc, iA G 30 gtrc6604)]) hP hD (fun hP hD => ?_)
  obtain ⟨hr6600, w6605⟩ := hr6600
  refine toQ hQ0 ?_
  exact RI (v := r6600) hC hP hD hS [0, 1] (jr16602, ip16603, gtrc6604) rfl rfl (by decide) (⟨trivial, by omega⟩) rfl gX12_bodyFrom_1.2.2.2.2.2
def K_m_dealt3 (l : Launch) (G : GG) (h0 : Nat) (xx : Int32) (nw : Nat) (nk : Nat) (mhasKept : Int32) (nt : Nat) (mtaped : Int32) (nr : Nat) (mrowMany : Int32) (mroundOf : Int32) (mroundFrom : Int32) (mouts : Int32) (nm : Nat) (mfromHour : Int32) (mtoHour : Int32) (ns : Nat) (mfrom : Int32) (mto : Int32) (msort : Int32) (misFault : Int32) (mdeep : Int32) (mcoded : Int32) (mlines : Int32) (nl : Nat) (nc : Nat) (nF : Nat) (np : Nat) (ntr : Nat) (nb : Nat) (mbestCost : Int32) (nso : Nat) (nsi : Nat) (nit : Nat) (nsh : Nat) (nsf : Nat) (nss : Nat) (nrc : Nat) (jr : Nat) (jd : Nat) (mnumber : Int32) (mwhose : Int32) (msize : Int32) (misParted : Int32) (fnrc : Nat → Int32) : Prop := MI l G yX12_dealt cX12_dealt 3 (some .int) 50 0 0 [.ref h0, .int 3, .int xx] [(h0, oX12 nw nk mhasKept nt mtaped nr mrowMany mroundOf mroundFrom mouts nm mfromHour mtoHour ns mfrom mto msort misFault mdeep mcoded mlines nl nc nF np ntr nb mbestCost nso nsi nit nsh nsf nss nrc (nI jr) (nI jd) mnumber mwhose msize misParted), (nrc, iA G 30 fnrc)] (fun (r : Int32) (u : Nat × Int32 × (Nat → Int32)) => (True) ∧ (u.1 ≤ 30)) (fun u : Nat × Int32 × (Nat → Int32) => [(h0, oX12 nw nk mhasKept nt mtaped nr mrowMany mroundOf mroundFrom mouts nm mfromHour mtoHour ns mfrom mto msort misFault mdeep mcoded mlines nl nc nF np ntr nb mbestCost nso nsi nit nsh nsf nss nrc (nI u.1) (nI jd) mnumber mwhose msize u.2.1), (nrc, iA G 30 u.2.2)])
set_option maxHeartbeats 4000000 in
set_option maxRecDepth 100000 in
theorem m_dealt3 (l : Launch) (G : GG) (h0 : Nat) (xx : Int32) (nw : Nat) (nk : Nat) (mhasKept : Int32) (nt : Nat) (mtaped : Int32) (nr : Nat) (mrowMany : Int32) (mroundOf : Int32) (mroundFrom : Int32) (mouts : Int32) (nm : Nat) (mfromHour : Int32) (mtoHour : Int32) (ns : Nat) (mfrom : Int32) (mto : Int32) (msort : Int32) (misFault : Int32) (mdeep : Int32) (mcoded : Int32) (mlines : Int32) (nl : Nat) (nc : Nat) (nF : Nat) (np : Nat) (ntr : Nat) (nb : Nat) (mbestCost : Int32) (nso : Nat) (nsi : Nat) (nit : Nat) (nsh : Nat) (nsf : Nat) (nss : Nat) (nrc : Nat) (jr : Nat) (jd : Nat) (mnumber : Int32) (mwhose : Int32) (msize : Int32) (misParted : Int32) (fnrc : Nat → Int32) (hjr : jr ≤ 30) (hjd : jd < 7) : K_m_dealt3 l G h0 xx nw nk mhasKept nt mtaped nr mrowMany mroundOf mroundFrom mouts nm mfromHour mtoHour ns mfrom mto msort misFault mdeep mcoded mlines nl nc nF np ntr nb mbestCost nso nsi nit nsh nsf nss nrc jr jd mnumber mwhose msize misParted fnrc := by
  refine MI.start (by decide +kernel) (Nat.le_of_ble_eq_true rfl) ?_
  intro p e s m below meth c A ls hC hK hP hD hS hA hl
  refine absQ (fun Q0 hQ0 => ?_)
  have hl : lv_has ls 3 [(0, .ref h0), (1, .int 3), (2, .int xx)] := hl
  refine Kan8 hC (fun hx hb hr hml hB hown hlocks hnm => ?_)
  refine lv_aload_n hx hb gX12_dealt_0.1 rfl (lv_at0 hl) ?_
  refine lv_aload_n hx hb gX12_dealt_0.2.1 rfl (lv_at0 hl) ?_
  refine gf_X12_354 hC rfl hK hP 0 rfl rfl gX12_dealt_0.2.2.1 ?_
  refine lv_iload_n hx hb gX12_dealt_0.2.2.2.1 rfl (lv_at1 hl) ?_
  refine lv_iload_n hx hb gX12_dealt_0.2.2.2.2.1 rfl (lv_at2 hl) ?_
  rcases (show jd = 0 ∨ jd = 1 ∨ jd = 2 ∨ jd = 3 ∨ jd = 4 ∨ jd = 5 ∨ jd = 6 by omega) with rfl | rfl | rfl | rfl | rfl | rfl | rfl
  · refine iV (wr := []) hC hK hl hP hD hS hA (m_from03 l G h0 xx nw nk mhasKept nt mtaped nr mrowMany mroundOf mroundFrom mouts nm mfromHour mtoHour ns mfrom mto msort misFault mdeep mcoded mlines nl nc nF np ntr nb mbestCost nso nsi nit nsh nsf nss nrc jr 0 mnumber mwhose msize misParted fnrc (hjr) (hjd)) si_X12_357 [0, 1] [] sm_0_1 fm_0_1 nd_0_1 rfl rfl (by decide) rfl rfl rfl rfl rfl (Nat.le_of_ble_eq_true rfl) rm_50_40_5 ⟨Nat.le_of_ble_eq_true rfl, Nat.le_of_ble_eq_true rfl⟩ gX12_dealt_0.2.2.2.2.2.1 (fun r6606 => Ktu3 fun jr16608 ip16609 gtrc6610 => ?_)
    intro H locs hr6606 hP hD hS
    try dsimp only at hr6606
    refine Kpdr (ws := [(h0, oX12 nw nk mhasKept nt mtaped nr mrowMany mroundOf mroundFrom mouts nm mfromHour mtoHour ns mfrom mto msort misFault mdeep mcoded mlines nl nc nF np ntr nb mbestCost nso nsi nit nsh nsf nss nrc (nI jr16608) 0 mnumber mwhose msize ip16609), (nrc, iA G 30 gtrc6610)]) hP hD (fun hP hD => ?_)
    obtain ⟨hr6606, w6611⟩ := hr6606
    refine toQ hQ0 ?_
    exact RI (v := r6606) hC hP hD hS [0, 1] (jr16608, ip16609, gtrc6610) rfl rfl (by decide) (⟨trivial, by omega⟩) rfl gX12_dealt_0.2.2.2.2.2.2
  · refine iV (wr := []) hC hK hl hP hD hS hA (m_from13 l G h0 xx nw nk mhasKept nt mtaped nr mrowMany mroundOf mroundFrom mouts nm mfromHour mtoHour ns mfrom mto msort misFault mdeep mcoded mlines nl nc nF np ntr nb mbestCost nso nsi nit nsh nsf nss nrc jr 1 mnumber mwhose msize misParted fnrc (hjr) (hjd)) si_X12_357 [0, 1] [] sm_0_1 fm_0_1 nd_0_1 rfl rfl (by decide) rfl rfl rfl rfl rfl (Nat.le_of_ble_eq_true rfl) rm_50_42_5 ⟨Nat.le_of_ble_eq_true rfl, Nat.le_of_ble_eq_true rfl⟩ gX12_dealt_0.2.2.2.2.2.1 (fun r6612 => Ktu3 fun jr16614 ip16615 gtrc6616 => ?_)
    intro H locs hr6612 hP hD hS
    try dsimp only at hr6612
    refine Kpdr (ws := [(h0, oX12 nw nk mhasKept nt mtaped nr mrowMany mroundOf mroundFrom mouts nm mfromHour mtoHour ns mfrom mto msort misFault mdeep mcoded mlines nl nc nF np ntr nb mbestCost nso nsi nit nsh nsf nss nrc (nI jr16614) 1 mnumber mwhose msize ip16615), (nrc, iA G 30 gtrc6616)]) hP hD (fun hP hD => ?_)
    obtain ⟨hr6612, w6617⟩ := hr6612
    refine toQ hQ0 ?_
    exact RI (v := r6612) hC hP hD hS [0, 1] (jr16614, ip16615, gtrc6616) rfl rfl (by decide) (⟨trivial, by omega⟩) rfl gX12_dealt_0.2.2.2.2.2.2
  · refine iV (wr := []) hC hK hl hP hD hS hA (m_from23 l G h0 xx nw nk mhasKept nt mtaped nr mrowMany mroundOf mroundFrom mouts nm mfromHour mtoHour ns mfrom mto msort misFault mdeep mcoded mlines nl nc nF np ntr nb mbestCost nso nsi nit nsh nsf nss nrc jr 2 mnumber mwhose msize misParted fnrc (hjr) (hjd)) si_X12_357 [0, 1] [] sm_0_1 fm_0_1 nd_0_1 rfl rfl (by decide) rfl rfl rfl rfl rfl (Nat.le_of_ble_eq_true rfl) rm_50_48_5 ⟨Nat.le_of_ble_eq_true rfl, Nat.le_of_ble_eq_true rfl⟩ gX12_dealt_0.2.2.2.2.2.1 (fun r6618 => Ktu3 fun jr16620 ip16621 gtrc6622 => ?_)
    intro H locs hr6618 hP hD hS
    try dsimp only at hr6618
    refine Kpdr (ws := [(h0, oX12 nw nk mhasKept nt mtaped nr mrowMany mroundOf mroundFrom mouts nm mfromHour mtoHour ns mfrom mto msort misFault mdeep mcoded mlines nl nc nF np ntr nb mbestCost nso nsi nit nsh nsf nss nrc (nI jr16620) 2 mnumber mwhose msize ip16621), (nrc, iA G 30 gtrc6622)]) hP hD (fun hP hD => ?_)
    obtain ⟨hr6618, w6623⟩ := hr6618
    refine toQ hQ0 ?_
    exact RI (v := r6618) hC hP hD hS [0, 1] (jr16620, ip16621, gtrc6622) rfl rfl (by decide) (⟨trivial, by omega⟩) rfl gX12_dealt_0.2.2.2.2.2.2
  · refine iV (wr := []) hC hK hl hP hD hS hA (m_from33 l G h0 xx nw nk mhasKept nt mtaped nr mrowMany mroundOf mroundFrom mouts nm mfromHour mtoHour ns mfrom mto msort misFault mdeep mcoded mlines nl nc nF np ntr nb mbestCost nso nsi nit nsh nsf nss nrc jr 3 mnumber mwhose msize misParted fnrc (hjr) (hjd)) si_X12_357 [0, 1] [] sm_0_1 fm_0_1 nd_0_1 rfl rfl (by decide) rfl rfl rfl rfl rfl (Nat.le_of_ble_eq_true rfl) rm_50_44_5 ⟨Nat.le_of_ble_eq_true rfl, Nat.le_of_ble_eq_true rfl⟩ gX12_dealt_0.2.2.2.2.2.1 (fun r6624 => Ktu3 fun jr16626 ip16627 gtrc6628 => ?_)
    intro H locs hr6624 hP hD hS
    try dsimp only at hr6624
    refine Kpdr (ws := [(h0, oX12 nw nk mhasKept nt mtaped nr mrowMany mroundOf mroundFrom mouts nm mfromHour mtoHour ns mfrom mto msort misFault mdeep mcoded mlines nl nc nF np ntr nb mbestCost nso nsi nit nsh nsf nss nrc (nI jr16626) 3 mnumber mwhose msize ip16627), (nrc, iA G 30 gtrc6628)]) hP hD (fun hP hD => ?_)
    obtain ⟨hr6624, w6629⟩ := hr6624
    refine toQ hQ0 ?_
    exact RI (v := r6624) hC hP hD hS [0, 1] (jr16626, ip16627, gtrc6628) rfl rfl (by decide) (⟨trivial, by omega⟩) rfl gX12_dealt_0.2.2.2.2.2.2
  · refine iV (wr := []) hC hK hl hP hD hS hA (m_from43 l G h0 xx nw nk mhasKept nt mtaped nr mrowMany mroundOf mroundFrom mouts nm mfromHour mtoHour ns mfrom mto msort misFault mdeep mcoded mlines nl nc nF np ntr nb mbestCost nso nsi nit nsh nsf nss nrc jr 4 mnumber mwhose msize misParted fnrc (hjr) (hjd)) si_X12_357 [0, 1] [] sm_0_1 fm_0_1 nd_0_1 rfl rfl (by decide) rfl rfl rfl rfl rfl (Nat.le_of_ble_eq_true rfl) rm_50_48_5 ⟨Nat.le_of_ble_eq_true rfl, Nat.le_of_ble_eq_true rfl⟩ gX12_dealt_0.2.2.2.2.2.1 (fun r6630 => Ktu3 fun jr16632 ip16633 gtrc6634 => ?_)
    intro H locs hr6630 hP hD hS
    try dsimp only at hr6630
    refine Kpdr (ws := [(h0, oX12 nw nk mhasKept nt mtaped nr mrowMany mroundOf mroundFrom mouts nm mfromHour mtoHour ns mfrom mto msort misFault mdeep mcoded mlines nl nc nF np ntr nb mbestCost nso nsi nit nsh nsf nss nrc (nI jr16632) 4 mnumber mwhose msize ip16633), (nrc, iA G 30 gtrc6634)]) hP hD (fun hP hD => ?_)
    obtain ⟨hr6630, w6635⟩ := hr6630
    refine toQ hQ0 ?_
    exact RI (v := r6630) hC hP hD hS [0, 1] (jr16632, ip16633, gtrc6634) rfl rfl (by decide) (⟨trivial, by omega⟩) rfl gX12_dealt_0.2.2.2.2.2.2
  · refine iV (wr := []) hC hK hl hP hD hS hA (m_from53 l G h0 xx nw nk mhasKept nt mtaped nr mrowMany mroundOf mroundFrom mouts nm mfromHour mtoHour ns mfrom mto msort misFault mdeep mcoded mlines nl nc nF np ntr nb mbestCost nso nsi nit nsh nsf nss nrc jr 5 mnumber mwhose msize misParted fnrc (hjr) (hjd)) si_X12_357 [0, 1] [] sm_0_1 fm_0_1 nd_0_1 rfl rfl (by decide) rfl rfl rfl rfl rfl (Nat.le_of_ble_eq_true rfl) rm_50_48_5 ⟨Nat.le_of_ble_eq_true rfl, Nat.le_of_ble_eq_true rfl⟩ gX12_dealt_0.2.2.2.2.2.1 (fun r6636 => Ktu3 fun jr16638 ip16639 gtrc6640 => ?_)
    intro H locs hr6636 hP hD hS
    try dsimp only at hr6636
    refine Kpdr (ws := [(h0, oX12 nw nk mhasKept nt mtaped nr mrowMany mroundOf mroundFrom mouts nm mfromHour mtoHour ns mfrom mto msort misFault mdeep mcoded mlines nl nc nF np ntr nb mbestCost nso nsi nit nsh nsf nss nrc (nI jr16638) 5 mnumber mwhose msize ip16639), (nrc, iA G 30 gtrc6640)]) hP hD (fun hP hD => ?_)
    obtain ⟨hr6636, w6641⟩ := hr6636
    refine toQ hQ0 ?_
    exact RI (v := r6636) hC hP hD hS [0, 1] (jr16638, ip16639, gtrc6640) rfl rfl (by decide) (⟨trivial, by omega⟩) rfl gX12_dealt_0.2.2.2.2.2.2
  · refine iV (wr := []) hC hK hl hP hD hS hA (m_from63 l G h0 xx nw nk mhasKept nt mtaped nr mrowMany mroundOf mroundFrom mouts nm mfromHour mtoHour ns mfrom mto msort misFault mdeep mcoded mlines nl nc nF np ntr nb mbestCost nso nsi nit nsh nsf nss nrc jr 6 mnumber mwhose msize misParted fnrc (hjr) (hjd)) si_X12_357 [0, 1] [] sm_0_1 fm_0_1 nd_0_1 rfl rfl (by decide) rfl rfl rfl rfl rfl (Nat.le_of_ble_eq_true rfl) rm_50_46_5 ⟨Nat.le_of_ble_eq_true rfl, Nat.le_of_ble_eq_true rfl⟩ gX12_dealt_0.2.2.2.2.2.1 (fun r6642 => Ktu3 fun jr16644 ip16645 gtrc6646 => ?_)
    intro H locs hr6642 hP hD hS
    try dsimp only at hr6642
    refine Kpdr (ws := [(h0, oX12 nw nk mhasKept nt mtaped nr mrowMany mroundOf mroundFrom mouts nm mfromHour mtoHour ns mfrom mto msort misFault mdeep mcoded mlines nl nc nF np ntr nb mbestCost nso nsi nit nsh nsf nss nrc (nI jr16644) 6 mnumber mwhose msize ip16645), (nrc, iA G 30 gtrc6646)]) hP hD (fun hP hD => ?_)
    obtain ⟨hr6642, w6647⟩ := hr6642
    refine toQ hQ0 ?_
    exact RI (v := r6642) hC hP hD hS [0, 1] (jr16644, ip16645, gtrc6646) rfl rfl (by decide) (⟨trivial, by omega⟩) rfl gX12_dealt_0.2.2.2.2.2.2
def K_w_deal (l : Launch) (G : GG) (h0 : Nat) (x1 : Int32) (x2 : Int32) (x3 : Int32) (nw : Nat) (nk : Nat) (mhasKept : Int32) (nt : Nat) (mtaped : Int32) (nr : Nat) (mrowMany : Int32) (mroundOf : Int32) (mroundFrom : Int32) (mouts : Int32) (nm : Nat) (mfromHour : Int32) (mtoHour : Int32) (ns : Nat) (mfrom : Int32) (mto : Int32) (msort : Int32) (misFault : Int32) (mdeep : Int32) (mcoded : Int32) (mlines : Int32) (nl : Nat) (nc : Nat) (nF : Nat) (np : Nat) (ntr : Nat) (nb : Nat) (mbestCost : Int32) (nso : Nat) (nsi : Nat) (nit : Nat) (nsh : Nat) (nsf : Nat) (nss : Nat) (nrc : Nat) (mtraced : Int32) (mdealer : Int32) (mnumber : Int32) (mwhose : Int32) (msize : Int32) (misParted : Int32) (fnw : Nat → Int32) (fnsh : Nat → Int32) (fnsf : Nat → Int32) (fnrc : Nat → Int32) : Prop := MI l G yX12_deal cX12_deal 8 (some .int) 60 0 0 [.ref h0, .int x1, .int x2, .int x3] [(h0, oX12 nw nk mhasKept nt mtaped nr mrowMany mroundOf mroundFrom mouts nm mfromHour mtoHour ns mfrom mto msort misFault mdeep mcoded mlines nl nc nF np ntr nb mbestCost nso nsi nit nsh nsf nss nrc mtraced mdealer mnumber mwhose msize misParted), (nw, iA G 1662 fnw), (nsh, iA G 4 fnsh), (nsf, iA G 4 fnsf), (nrc, iA G 30 fnrc)] (fun (r : Int32) (u : Nat × Int32 × Int32 × Int32 × Int32 × Int32 × (Nat → Int32)) => (True) ∧ (u.1 ≤ 30)) (fun u : Nat × Int32 × Int32 × Int32 × Int32 × Int32 × (Nat → Int32) => [(h0, oX12 nw nk mhasKept nt mtaped nr mrowMany mroundOf mroundFrom mouts nm mfromHour mtoHour ns mfrom mto msort misFault mdeep mcoded mlines nl nc nF np ntr nb mbestCost nso nsi nit nsh nsf nss nrc (nI u.1) u.2.1 u.2.2.1 u.2.2.2.1 u.2.2.2.2.1 u.2.2.2.2.2.1), (nw, iA G 1662 fnw), (nsh, iA G 4 fnsh), (nsf, iA G 4 fnsf), (nrc, iA G 30 u.2.2.2.2.2.2)])
set_option maxHeartbeats 4000000 in
set_option maxRecDepth 100000 in
theorem w_deal (l : Launch) (G : GG) (h0 : Nat) (x1 : Int32) (x2 : Int32) (x3 : Int32) (nw : Nat) (nk : Nat) (mhasKept : Int32) (nt : Nat) (mtaped : Int32) (nr : Nat) (mrowMany : Int32) (mroundOf : Int32) (mroundFrom : Int32) (mouts : Int32) (nm : Nat) (mfromHour : Int32) (mtoHour : Int32) (ns : Nat) (mfrom : Int32) (mto : Int32) (msort : Int32) (misFault : Int32) (mdeep : Int32) (mcoded : Int32) (mlines : Int32) (nl : Nat) (nc : Nat) (nF : Nat) (np : Nat) (ntr : Nat) (nb : Nat) (mbestCost : Int32) (nso : Nat) (nsi : Nat) (nit : Nat) (nsh : Nat) (nsf : Nat) (nss : Nat) (nrc : Nat) (mtraced : Int32) (mdealer : Int32) (mnumber : Int32) (mwhose : Int32) (msize : Int32) (misParted : Int32) (fnw : Nat → Int32) (fnsh : Nat → Int32) (fnsf : Nat → Int32) (fnrc : Nat → Int32) (hN : NI fnw) : K_w_deal l G h0 x1 x2 x3 nw nk mhasKept nt mtaped nr mrowMany mroundOf mroundFrom mouts nm mfromHour mtoHour ns mfrom mto msort misFault mdeep mcoded mlines nl nc nF np ntr nb mbestCost nso nsi nit nsh nsf nss nrc mtraced mdealer mnumber mwhose msize misParted fnw fnsh fnsf fnrc := by
  refine MI.start (by decide +kernel) (Nat.le_of_ble_eq_true rfl) ?_
  intro p e s m below meth c A ls hC hK hP hD hS hA hl
  refine absQ (fun Q0 hQ0 => ?_)
  have hl : lv_has ls 8 [(0, .ref h0), (1, .int x1), (2, .int x2), (3, .int x3)] := hl
  refine Kan8 hC (fun hx hb hr hml hB hown hlocks hnm => ?_)
  refine lv_aload_n hx hb gX12_deal_0.1 rfl (lv_at0 hl) ?_
  refine lv_iconst (v := 0) hx hb gX12_deal_0.2.1 (by decide) ?_
  refine pf_X12_351 hC rfl hK hP hD hS 0 (ws' := [(h0, oX12 nw nk mhasKept nt mtaped nr mrowMany mroundOf mroundFrom mouts nm mfromHour mtoHour ns mfrom mto msort misFault mdeep mcoded mlines nl nc nF np ntr nb mbestCost nso nsi nit nsh nsf nss nrc 0 mdealer mnumber mwhose msize misParted), (nw, iA G 1662 fnw), (nsh, iA G 4 fnsh), (nsf, iA G 4 fnsf), (nrc, iA G 30 fnrc)]) rfl (Nat.le_of_ble_eq_true rfl) rfl rfl rfl gX12_deal_0.2.2.1 (fun H locs hP hD hS => ?_)
  refine lv_iload_n hx hb gX12_deal_0.2.2.2.1 rfl (lv_at1 hl) ?_
  refine pS hC hK hl (m_isFour l G x1) si_X12_336 rfl rfl (Nat.le_of_ble_eq_true rfl) rm_60_2_1 ⟨by first | exact Nat.le_of_ble_eq_true rfl | exact Nat.zero_le _, by first | exact Nat.le_of_ble_eq_true rfl | exact Nat.zero_le _⟩ gX12_deal_0.2.2.2.2.1 (Kors (Keqa fun a6649 => ?_) (Keqa fun a6649 => ?_))
  · refine lv_if_eq (tgt := 19) hx hb gX12_deal_0.2.2.2.2.2.1 (by decide) (fun c9 => absurd c9 (by decide)) (fun _ => ?_)
    refine lv_iload_n hx hb gX12_deal_0.2.2.2.2.2.2.1 rfl (lv_at2 hl) ?_
    refine pS hC hK hl (m_isFour l G x2) si_X12_336 rfl rfl (Nat.le_of_ble_eq_true rfl) rm_60_2_1 ⟨by first | exact Nat.le_of_ble_eq_true rfl | exact Nat.zero_le _, by first | exact Nat.le_of_ble_eq_true rfl | exact Nat.zero_le _⟩ gX12_deal_0.2.2.2.2.2.2.2.1 (Kors (Keqa fun a6651 => ?_) (Keqa fun a6651 => ?_))
    · refine lv_if_ne (tgt := 23) hx hb gX12_deal_0.2.2.2.2.2.2.2.2.1 (by decide) (fun _ => ?_) (fun c9 => absurd c9 (by decide))
      obtain ⟨jt, hjt, rfl⟩ := Wi_nat (N := 3) (by decide) a6649
      refine lv_aload_n hx hb gX12_deal_1.2.1 rfl (lv_at0 hl) ?_
      refine lv_iload_n hx hb gX12_deal_1.2.2.1 rfl (lv_at1 hl) ?_
      refine pV hC hK hl hP hD (m_kindOn l G h0 jt nw nk mhasKept nt mtaped nr mrowMany mroundOf mroundFrom mouts nm mfromHour mtoHour ns mfrom mto msort misFault mdeep mcoded mlines nl nc nF np ntr nb mbestCost nso nsi nit nsh nsf nss nrc 0 mdealer mnumber mwhose msize misParted fnw fnsh fnsf (by omega) (hN)) si_X12_345 [0, 1, 2, 3] sm_0_1_2_3 fm_0_1_2_3 nd_0_1_2_3 rfl rfl rfl rfl rfl (Nat.le_of_ble_eq_true rfl) rm_60_3_4 ⟨by first | exact Nat.le_of_ble_eq_true rfl | exact Nat.zero_le _, by first | exact Nat.le_of_ble_eq_true rfl | exact Nat.zero_le _⟩ gX12_deal_1.2.2.2.1 (Kors (Keqr ?_) (Kors (Keqa fun a6653 => ?_) (Kors (Keqa fun a6653 => ?_) (Kors (Keqa fun a6653 => ?_) (Kors (Keqa fun a6653 => ?_) (Kors (Keqa fun a6653 => ?_) (Keqa fun a6653 => ?_)))))))
      · refine lv_istore (lv' := [(4, .int (-1)), (0, .ref h0), (1, .int (nI jt)), (2, .int x2), (3, .int x3)]) hx hb gX12_deal_1.2.2.2.2.1 hl (by decide) rfl (fun ls hl => ?_)
        refine lv_iload hx hb gX12_deal_1.2.2.2.2.2.1 (lv_at0 hl) ?_
        refine lv_if_ge (tgt := 37) hx hb gX12_deal_1.2.2.2.2.2.2.1 (by decide) (fun c9 => absurd c9 (by decide)) (fun _ => ?_)
        refine lv_iconst (v := 0) hx hb gX12_deal_1.2.2.2.2.2.2.2.1 (by decide) ?_
        refine toQ hQ0 ?_
        exact RI (v := 0) hC hP hD hS [0, 1, 2, 3, 4] (0, mdealer, mnumber, mwhose, msize, misParted, fnrc) rfl rfl (by decide) (⟨trivial, by omega⟩) rfl gX12_deal_1.2.2.2.2.2.2.2.2.1
      · refine lv_istore (lv' := [(4, .int 1), (0, .ref h0), (1, .int (nI jt)), (2, .int x2), (3, .int x3)]) hx hb gX12_deal_1.2.2.2.2.1 hl (by decide) rfl (fun ls hl => ?_)
        refine lv_iload hx hb gX12_deal_1.2.2.2.2.2.1 (lv_at0 hl) ?_
        refine lv_if_ge (tgt := 37) hx hb gX12_deal_1.2.2.2.2.2.2.1 (by decide) (fun _ => ?_) (fun c9 => absurd (by decide) c9)
        refine lv_aload_n hx hb gX12_deal_1.2.2.2.2.2.2.2.2.2 rfl (lv_at1 hl) ?_
        refine lv_iload hx hb gX12_deal_2.1 (lv_at0 hl) ?_
        refine pf_X12_354 hC rfl hK hP hD hS 0 (ws' := [(h0, oX12 nw nk mhasKept nt mtaped nr mrowMany mroundOf mroundFrom mouts nm mfromHour mtoHour ns mfrom mto msort misFault mdeep mcoded mlines nl nc nF np ntr nb mbestCost nso nsi nit nsh nsf nss nrc 0 1 mnumber mwhose msize misParted), (nw, iA G 1662 fnw), (nsh, iA G 4 fnsh), (nsf, iA G 4 fnsf), (nrc, iA G 30 fnrc)]) rfl (Nat.le_of_ble_eq_true rfl) rfl rfl rfl gX12_deal_2.2.1 (fun H locs hP hD hS => ?_)
        refine lv_aload_n hx hb gX12_deal_2.2.2.1 rfl (lv_at1 hl) ?_
        refine lv_aload_n hx hb gX12_deal_2.2.2.2.1 rfl (lv_at1 hl) ?_
        refine gf_X12_75 hC rfl hK hP 0 rfl rfl gX12_deal_2.2.2.2.2.1 ?_
        refine lv_iload_n hx hb gX12_deal_2.2.2.2.2.2.1 rfl (lv_at2 hl) ?_
        refine aldN hC hK hP 3 rfl (k := jt) (by omega) (Nat.le_of_ble_eq_true rfl) (v := fnsf jt) rfl gX12_deal_2.2.2.2.2.2.2.1 ?_
        refine lv_topi (fun x6654 ex6654 => ?_)
        obtain ⟨hko9, jno, hjno, ejno⟩ := a6653
        refine eqi (x1 := nI jno) (ex6654.trans ejno) ?_
        refine pf_X12_378 hC rfl hK hP hD hS 0 (ws' := [(h0, oX12 nw nk mhasKept nt mtaped nr mrowMany mroundOf mroundFrom mouts nm mfromHour mtoHour ns mfrom mto msort misFault mdeep mcoded mlines nl nc nF np ntr nb mbestCost nso nsi nit nsh nsf nss nrc 0 1 (nI jno) mwhose msize misParted), (nw, iA G 1662 fnw), (nsh, iA G 4 fnsh), (nsf, iA G 4 fnsf), (nrc, iA G 30 fnrc)]) rfl (Nat.le_of_ble_eq_true rfl) rfl rfl rfl gX12_deal_2.2.2.2.2.2.2.2.1 (fun H locs hP hD hS => ?_)
        refine lv_aload_n hx hb gX12_deal_2.2.2.2.2.2.2.2.2.1 rfl (lv_at1 hl) ?_
        refine gf_X12_72 hC rfl hK hP 0 rfl rfl gX12_deal_2.2.2.2.2.2.2.2.2.2 ?_
        refine lv_iload_n hx hb gX12_deal_3.1 rfl (lv_at2 hl) ?_
        refine aldN hC hK hP 2 rfl (k := jt) (by omega) (Nat.le_of_ble_eq_true rfl) (v := fnsh jt) rfl gX12_deal_3.2.1 ?_
        refine lv_topi (fun x6655 ex6655 => ?_)
        refine lv_iconst (v := 1) hx hb gX12_deal_3.2.2.1 (by decide) ?_
        refine lv_icmp_ne (tgt := 67) hx hb gX12_deal_3.2.2.2.1 (by decide) (fun c9 => absurd (ex6655.trans hko9) c9) (fun _ => ?_)
        refine lv_iconst (v := 1) hx hb gX12_deal_3.2.2.2.2.1 (by decide) ?_
        refine lv_goto (tgt := 68) hx hb gX12_deal_3.2.2.2.2.2.1 (by decide) ?_
        refine lv_istore (lv' := [(5, .int 1), (4, .int 1), (0, .ref h0), (1, .int (nI jt)), (2, .int x2), (3, .int x3)]) hx hb gX12_deal_3.2.2.2.2.2.2.2.1 hl (by decide) rfl (fun ls hl => ?_)
        refine lv_aload_n hx hb gX12_deal_3.2.2.2.2.2.2.2.2.1 rfl (lv_at2 hl) ?_
        refine gf_X12_72 hC rfl hK hP 0 rfl rfl gX12_deal_3.2.2.2.2.2.2.2.2.2 ?_
        refine lv_iload_n hx hb gX12_deal_4.1 rfl (lv_at3 hl) ?_
        refine aldN hC hK hP 2 rfl (k := jt) (by omega) (Nat.le_of_ble_eq_true rfl) (v := fnsh jt) rfl gX12_deal_4.2.1 ?_
        refine lv_topi (fun x6656 ex6656 => ?_)
        refine lv_iconst (v := 2) hx hb gX12_deal_4.2.2.1 (by decide) ?_
        refine lv_icmp_ne (tgt := 84) hx hb gX12_deal_4.2.2.2.1 (by decide) (fun _ => ?_) (fun c9 => absurd c9 (fun h9 => absurd (hko9.symm.trans ((ex6656.symm).trans h9)) (by decide)))
        refine lv_iconst (v := 0) hx hb gX12_deal_4.2.2.2.2.2.2.1 (by decide) ?_
        refine lv_istore (lv' := [(6, .int 0), (5, .int 1), (4, .int 1), (0, .ref h0), (1, .int (nI jt)), (2, .int x2), (3, .int x3)]) hx hb gX12_deal_4.2.2.2.2.2.2.2.1 hl (by decide) rfl (fun ls hl => ?_)
        refine lv_aload_n hx hb gX12_deal_4.2.2.2.2.2.2.2.2.1 rfl (lv_at3 hl) ?_
        refine lv_iload hx hb gX12_deal_4.2.2.2.2.2.2.2.2.2 (lv_at1 hl) ?_
        refine lv_if_eq (tgt := 105) hx hb gX12_deal_5.1 (by decide) (fun c9 => absurd c9 (by decide)) (fun _ => ?_)
        refine lv_aload_n hx hb gX12_deal_5.2.1 rfl (lv_at3 hl) ?_
        refine lv_aload_n hx hb gX12_deal_5.2.2.1 rfl (lv_at3 hl) ?_
        refine gf_X12_378 hC rfl hK hP 0 rfl rfl gX12_deal_5.2.2.2.1 ?_
        refine lv_iconst (v := 0) hx hb gX12_deal_5.2.2.2.2.1 (by decide) ?_
        refine pV hC hK hl hP hD (m_paper l G h0 jno 0 nw nk mhasKept nt mtaped nr mrowMany mroundOf mroundFrom mouts nm mfromHour mtoHour ns mfrom mto msort misFault mdeep mcoded mlines nl nc nF np ntr nb mbestCost nso nsi nit nsh nsf nss nrc 0 1 (nI jno) mwhose msize misParted fnw (by omega) (by omega)) si_X12_88 [0, 1] sm_0_1 fm_0_1 nd_0_1 rfl rfl rfl rfl rfl (Nat.le_of_ble_eq_true rfl) rm_60_1_3 ⟨by first | exact Nat.le_of_ble_eq_true rfl | exact Nat.zero_le _, by first | exact Nat.le_of_ble_eq_true rfl | exact Nat.zero_le _⟩ gX12_deal_5.2.2.2.2.2.1 (Keqr ?_)
        refine lv_goto (tgt := 139) hx hb gX12_deal_5.2.2.2.2.2.2.1 (by decide) ?_
        refine pf_X12_375 hC rfl hK hP hD hS 0 (ws' := [(h0, oX12 nw nk mhasKept nt mtaped nr mrowMany mroundOf mroundFrom mouts nm mfromHour mtoHour ns mfrom mto msort misFault mdeep mcoded mlines nl nc nF np ntr nb mbestCost nso nsi nit nsh nsf nss nrc 0 1 (nI jno) (fnw (32 + 6 * jno + 0)) msize misParted), (nw, iA G 1662 fnw), (nsh, iA G 4 fnsh), (nsf, iA G 4 fnsf), (nrc, iA G 30 fnrc)]) rfl (Nat.le_of_ble_eq_true rfl) rfl rfl rfl gX12_deal_7.2.2.2.2.2.2.1 (fun H locs hP hD hS => ?_)
        refine lv_aload_n hx hb gX12_deal_7.2.2.2.2.2.2.2.1 rfl (lv_at3 hl) ?_
        refine lv_iload hx hb gX12_deal_7.2.2.2.2.2.2.2.2.1 (lv_at1 hl) ?_
        refine lv_if_eq (tgt := 160) hx hb gX12_deal_7.2.2.2.2.2.2.2.2.2 (by decide) (fun c9 => absurd c9 (by decide)) (fun _ => ?_)
        refine lv_aload_n hx hb gX12_deal_8.1 rfl (lv_at3 hl) ?_
        refine lv_aload_n hx hb gX12_deal_8.2.1 rfl (lv_at3 hl) ?_
        refine gf_X12_378 hC rfl hK hP 0 rfl rfl gX12_deal_8.2.2.1 ?_
        refine lv_iconst (v := 2) hx hb gX12_deal_8.2.2.2.1 (by decide) ?_
        refine pV hC hK hl hP hD (m_paper l G h0 jno 2 nw nk mhasKept nt mtaped nr mrowMany mroundOf mroundFrom mouts nm mfromHour mtoHour ns mfrom mto msort misFault mdeep mcoded mlines nl nc nF np ntr nb mbestCost nso nsi nit nsh nsf nss nrc 0 1 (nI jno) (fnw (32 + 6 * jno + 0)) msize misParted fnw (by omega) (by omega)) si_X12_88 [0, 1] sm_0_1 fm_0_1 nd_0_1 rfl rfl rfl rfl rfl (Nat.le_of_ble_eq_true rfl) rm_60_1_3 ⟨by first | exact Nat.le_of_ble_eq_true rfl | exact Nat.zero_le _, by first | exact Nat.le_of_ble_eq_true rfl | exact Nat.zero_le _⟩ gX12_deal_8.2.2.2.2.1 (Keqr ?_)
        refine lv_goto (tgt := 194) hx hb gX12_deal_8.2.2.2.2.2.1 (by decide) ?_
        refine pf_X12_369 hC rfl hK hP hD hS 0 (ws' := [(h0, oX12 nw nk mhasKept nt mtaped nr mrowMany mroundOf mroundFrom mouts nm mfromHour mtoHour ns mfrom mto msort misFault mdeep mcoded mlines nl nc nF np ntr nb mbestCost nso nsi nit nsh nsf nss nrc 0 1 (nI jno) (fnw (32 + 6 * jno + 0)) (fnw (32 + 6 * jno + 2)) misParted), (nw, iA G 1662 fnw), (nsh, iA G 4 fnsh), (nsf, iA G 4 fnsf), (nrc, iA G 30 fnrc)]) rfl (Nat.le_of_ble_eq_true rfl) rfl rfl rfl gX12_deal_10.2.2.2.2.2.1 (fun H locs hP hD hS => ?_)
        refine lv_aload_n hx hb gX12_deal_10.2.2.2.2.2.2.1 rfl (lv_at3 hl) ?_
        refine lv_iconst (v := 0) hx hb gX12_deal_10.2.2.2.2.2.2.2.1 (by decide) ?_
        refine pf_X12_380 hC rfl hK hP hD hS 0 (ws' := [(h0, oX12 nw nk mhasKept nt mtaped nr mrowMany mroundOf mroundFrom mouts nm mfromHour mtoHour ns mfrom mto msort misFault mdeep mcoded mlines nl nc nF np ntr nb mbestCost nso nsi nit nsh nsf nss nrc 0 1 (nI jno) (fnw (32 + 6 * jno + 0)) (fnw (32 + 6 * jno + 2)) 0), (nw, iA G 1662 fnw), (nsh, iA G 4 fnsh), (nsf, iA G 4 fnsf), (nrc, iA G 30 fnrc)]) rfl (Nat.le_of_ble_eq_true rfl) rfl (by decide +kernel) (by decide +kernel) gX12_deal_10.2.2.2.2.2.2.2.2.1 (fun H locs hP hD hS => ?_)
        obtain ⟨jdl, hjdl, rfl⟩ := Wi_nat (N := 3) (by decide) a6651
        rcases (show jdl = 0 ∨ jdl = 1 ∨ jdl = 2 ∨ jdl = 3 by omega) with rfl | rfl | rfl | rfl
        · refine lv_aload_n hx hb gX12_deal_10.2.2.2.2.2.2.2.2.2 rfl (lv_at3 hl) ?_
          refine lv_iload_n hx hb gX12_deal_11.1 rfl (lv_at5 hl) ?_
          refine lv_iload_n hx hb gX12_deal_11.2.1 rfl (lv_at6 hl) ?_
          refine iV (wr := [(nw, iA G 1662 fnw), (nsh, iA G 4 fnsh), (nsf, iA G 4 fnsf)]) hC hK hl hP hD hS hA (m_dealt0 l G h0 x3 nw nk mhasKept nt mtaped nr mrowMany mroundOf mroundFrom mouts nm mfromHour mtoHour ns mfrom mto msort misFault mdeep mcoded mlines nl nc nF np ntr nb mbestCost nso nsi nit nsh nsf nss nrc 0 1 (nI jno) (fnw (32 + 6 * jno + 0)) (fnw (32 + 6 * jno + 2)) 0 fnrc (by omega) (by omega)) si_X12_372 [0, 4] [1, 2, 3] sm_0_4 fm_0_4 nd_0_4 sm_1_2_3 nd_1_2_3 dj_0_4__1_2_3 rfl rfl rfl rfl rfl (Nat.le_of_ble_eq_true rfl) rm_60_14_3 ⟨Nat.le_of_ble_eq_true rfl, Nat.le_of_ble_eq_true rfl⟩ gX12_deal_11.2.2.1 (fun r6661 => Ktu3 fun jr16663 ip16664 gtrc6665 => ?_)
          intro H locs hr6661 hP hD hS
          try dsimp only at hr6661
          refine Kpdr (ws := [(nw, iA G 1662 fnw), (nsh, iA G 4 fnsh), (nsf, iA G 4 fnsf), (h0, oX12 nw nk mhasKept nt mtaped nr mrowMany mroundOf mroundFrom mouts nm mfromHour mtoHour ns mfrom mto msort misFault mdeep mcoded mlines nl nc nF np ntr nb mbestCost nso nsi nit nsh nsf nss nrc (nI jr16663) 1 (nI jno) (fnw (32 + 6 * jno + 0)) (fnw (32 + 6 * jno + 2)) ip16664), (nrc, iA G 30 gtrc6665)]) hP hD (fun hP hD => ?_)
          obtain ⟨hr6661, w6666⟩ := hr6661
          refine lv_istore (lv' := [(7, .int r6661), (6, .int 0), (5, .int 1), (4, .int 1), (0, .ref h0), (1, .int (nI jt)), (2, .int 0), (3, .int x3)]) hx hb gX12_deal_11.2.2.2.1 hl (by decide) rfl (fun ls hl => ?_)
          refine lv_aload_n hx hb gX12_deal_11.2.2.2.2.1 rfl (lv_at4 hl) ?_
          refine gf_X12_380 hC rfl hK hP 3 rfl rfl gX12_deal_11.2.2.2.2.2.1 ?_
          refine lv_if_eq (tgt := 222) hx hb gX12_deal_11.2.2.2.2.2.2.1 (by decide) (fun c_214_6667 => ?_) (fun c_214_6667 => ?_)
          · refine lv_iload hx hb gX12_deal_11.2.2.2.2.2.2.2.2.2 (lv_at0 hl) ?_
            refine toQ hQ0 ?_
            exact RI (v := r6661) hC hP hD hS [3, 0, 1, 2, 4] (jr16663, 1, nI jno, fnw (32 + 6 * jno + 0), fnw (32 + 6 * jno + 2), ip16664, gtrc6665) rfl rfl (by decide) (⟨trivial, by omega⟩) rfl gX12_deal_12
          · refine lv_bipush (v := (-15)) hx hb gX12_deal_11.2.2.2.2.2.2.2.1 (by decide) ?_
            refine lv_goto (tgt := 224) hx hb gX12_deal_11.2.2.2.2.2.2.2.2.1 (by decide) ?_
            refine toQ hQ0 ?_
            exact RI (v := (-15)) hC hP hD hS [3, 0, 1, 2, 4] (jr16663, 1, nI jno, fnw (32 + 6 * jno + 0), fnw (32 + 6 * jno + 2), ip16664, gtrc6665) rfl rfl (by decide) (⟨trivial, by omega⟩) rfl gX12_deal_12
        · refine lv_aload_n hx hb gX12_deal_10.2.2.2.2.2.2.2.2.2 rfl (lv_at3 hl) ?_
          refine lv_iload_n hx hb gX12_deal_11.1 rfl (lv_at5 hl) ?_
          refine lv_iload_n hx hb gX12_deal_11.2.1 rfl (lv_at6 hl) ?_
          refine iV (wr := [(nw, iA G 1662 fnw), (nsh, iA G 4 fnsh), (nsf, iA G 4 fnsf)]) hC hK hl hP hD hS hA (m_dealt1 l G h0 x3 nw nk mhasKept nt mtaped nr mrowMany mroundOf mroundFrom mouts nm mfromHour mtoHour ns mfrom mto msort misFault mdeep mcoded mlines nl nc nF np ntr nb mbestCost nso nsi nit nsh nsf nss nrc 0 1 (nI jno) (fnw (32 + 6 * jno + 0)) (fnw (32 + 6 * jno + 2)) 0 fnrc (by omega) (by omega)) si_X12_372 [0, 4] [1, 2, 3] sm_0_4 fm_0_4 nd_0_4 sm_1_2_3 nd_1_2_3 dj_0_4__1_2_3 rfl rfl rfl rfl rfl (Nat.le_of_ble_eq_true rfl) rm_60_26_3 ⟨Nat.le_of_ble_eq_true rfl, Nat.le_of_ble_eq_true rfl⟩ gX12_deal_11.2.2.1 (fun r6668 => Ktu3 fun jr16670 ip16671 gtrc6672 => ?_)
          intro H locs hr6668 hP hD hS
          try dsimp only at hr6668
          refine Kpdr (ws := [(nw, iA G 1662 fnw), (nsh, iA G 4 fnsh), (nsf, iA G 4 fnsf), (h0, oX12 nw nk mhasKept nt mtaped nr mrowMany mroundOf mroundFrom mouts nm mfromHour mtoHour ns mfrom mto msort misFault mdeep mcoded mlines nl nc nF np ntr nb mbestCost nso nsi nit nsh nsf nss nrc (nI jr16670) 1 (nI jno) (fnw (32 + 6 * jno + 0)) (fnw (32 + 6 * jno + 2)) ip16671), (nrc, iA G 30 gtrc6672)]) hP hD (fun hP hD => ?_)
          obtain ⟨hr6668, w6673⟩ := hr6668
          refine lv_istore (lv' := [(7, .int r6668), (6, .int 0), (5, .int 1), (4, .int 1), (0, .ref h0), (1, .int (nI jt)), (2, .int 1), (3, .int x3)]) hx hb gX12_deal_11.2.2.2.1 hl (by decide) rfl (fun ls hl => ?_)
          refine lv_aload_n hx hb gX12_deal_11.2.2.2.2.1 rfl (lv_at4 hl) ?_
          refine gf_X12_380 hC rfl hK hP 3 rfl rfl gX12_deal_11.2.2.2.2.2.1 ?_
          refine lv_if_eq (tgt := 222) hx hb gX12_deal_11.2.2.2.2.2.2.1 (by decide) (fun c_214_6674 => ?_) (fun c_214_6674 => ?_)
          · refine lv_iload hx hb gX12_deal_11.2.2.2.2.2.2.2.2.2 (lv_at0 hl) ?_
            refine toQ hQ0 ?_
            exact RI (v := r6668) hC hP hD hS [3, 0, 1, 2, 4] (jr16670, 1, nI jno, fnw (32 + 6 * jno + 0), fnw (32 + 6 * jno + 2), ip16671, gtrc6672) rfl rfl (by decide) (⟨trivial, by omega⟩) rfl gX12_deal_12
          · refine lv_bipush (v := (-15)) hx hb gX12_deal_11.2.2.2.2.2.2.2.1 (by decide) ?_
            refine lv_goto (tgt := 224) hx hb gX12_deal_11.2.2.2.2.2.2.2.2.1 (by decide) ?_
            refine toQ hQ0 ?_
            exact RI (v := (-15)) hC hP hD hS [3, 0, 1, 2, 4] (jr16670, 1, nI jno, fnw (32 + 6 * jno + 0), fnw (32 + 6 * jno + 2), ip16671, gtrc6672) rfl rfl (by decide) (⟨trivial, by omega⟩) rfl gX12_deal_12
        · refine lv_aload_n hx hb gX12_deal_10.2.2.2.2.2.2.2.2.2 rfl (lv_at3 hl) ?_
          refine lv_iload_n hx hb gX12_deal_11.1 rfl (lv_at5 hl) ?_
          refine lv_iload_n hx hb gX12_deal_11.2.1 rfl (lv_at6 hl) ?_
          refine iV (wr := [(nw, iA G 1662 fnw), (nsh, iA G 4 fnsh), (nsf, iA G 4 fnsf)]) hC hK hl hP hD hS hA (m_dealt2 l G h0 x3 nw nk mhasKept nt mtaped nr mrowMany mroundOf mroundFrom mouts nm mfromHour mtoHour ns mfrom mto msort misFault mdeep mcoded mlines nl nc nF np ntr nb mbestCost nso nsi nit nsh nsf nss nrc 0 1 (nI jno) (fnw (32 + 6 * jno + 0)) (fnw (32 + 6 * jno + 2)) 0 fnrc (by omega) (by omega)) si_X12_372 [0, 4] [1, 2, 3] sm_0_4 fm_0_4 nd_0_4 sm_1_2_3 nd_1_2_3 dj_0_4__1_2_3 rfl rfl rfl rfl rfl (Nat.le_of_ble_eq_true rfl) rm_60_38_3 ⟨Nat.le_of_ble_eq_true rfl, Nat.le_of_ble_eq_true rfl⟩ gX12_deal_11.2.2.1 (fun r6675 => Ktu3 fun jr16677 ip16678 gtrc6679 => ?_)
          intro H locs hr6675 hP hD hS
          try dsimp only at hr6675
          refine Kpdr (ws := [(nw, iA G 1662 fnw), (nsh, iA G 4 fnsh), (nsf, iA G 4 fnsf), (h0, oX12 nw nk mhasKept nt mtaped nr mrowMany mroundOf mroundFrom mouts nm mfromHour mtoHour ns mfrom mto msort misFault mdeep mcoded mlines nl nc nF np ntr nb mbestCost nso nsi nit nsh nsf nss nrc (nI jr16677) 1 (nI jno) (fnw (32 + 6 * jno + 0)) (fnw (32 + 6 * jno + 2)) ip16678), (nrc, iA G 30 gtrc6679)]) hP hD (fun hP hD => ?_)
          obtain ⟨hr6675, w6680⟩ := hr6675
          refine lv_istore (lv' := [(7, .int r6675), (6, .int 0), (5, .int 1), (4, .int 1), (0, .ref h0), (1, .int (nI jt)), (2, .int 2), (3, .int x3)]) hx hb gX12_deal_11.2.2.2.1 hl (by decide) rfl (fun ls hl => ?_)
          refine lv_aload_n hx hb gX12_deal_11.2.2.2.2.1 rfl (lv_at4 hl) ?_
          refine gf_X12_380 hC rfl hK hP 3 rfl rfl gX12_deal_11.2.2.2.2.2.1 ?_
          refine lv_if_eq (tgt := 222) hx hb gX12_deal_11.2.2.2.2.2.2.1 (by decide) (fun c_214_6681 => ?_) (fun c_214_6681 => ?_)
          · refine lv_iload hx hb gX12_deal_11.2.2.2.2.2.2.2.2.2 (lv_at0 hl) ?_
            refine toQ hQ0 ?_
            exact RI (v := r6675) hC hP hD hS [3, 0, 1, 2, 4] (jr16677, 1, nI jno, fnw (32 + 6 * jno + 0), fnw (32 + 6 * jno + 2), ip16678, gtrc6679) rfl rfl (by decide) (⟨trivial, by omega⟩) rfl gX12_deal_12
          · refine lv_bipush (v := (-15)) hx hb gX12_deal_11.2.2.2.2.2.2.2.1 (by decide) ?_
            refine lv_goto (tgt := 224) hx hb gX12_deal_11.2.2.2.2.2.2.2.2.1 (by decide) ?_
            refine toQ hQ0 ?_
            exact RI (v := (-15)) hC hP hD hS [3, 0, 1, 2, 4] (jr16677, 1, nI jno, fnw (32 + 6 * jno + 0), fnw (32 + 6 * jno + 2), ip16678, gtrc6679) rfl rfl (by decide) (⟨trivial, by omega⟩) rfl gX12_deal_12
        · refine lv_aload_n hx hb gX12_deal_10.2.2.2.2.2.2.2.2.2 rfl (lv_at3 hl) ?_
          refine lv_iload_n hx hb gX12_deal_11.1 rfl (lv_at5 hl) ?_
          refine lv_iload_n hx hb gX12_deal_11.2.1 rfl (lv_at6 hl) ?_
          refine iV (wr := [(nw, iA G 1662 fnw), (nsh, iA G 4 fnsh), (nsf, iA G 4 fnsf)]) hC hK hl hP hD hS hA (m_dealt3 l G h0 x3 nw nk mhasKept nt mtaped nr mrowMany mroundOf mroundFrom mouts nm mfromHour mtoHour ns mfrom mto msort misFault mdeep mcoded mlines nl nc nF np ntr nb mbestCost nso nsi nit nsh nsf nss nrc 0 1 (nI jno) (fnw (32 + 6 * jno + 0)) (fnw (32 + 6 * jno + 2)) 0 fnrc (by omega) (by omega)) si_X12_372 [0, 4] [1, 2, 3] sm_0_4 fm_0_4 nd_0_4 sm_1_2_3 nd_1_2_3 dj_0_4__1_2_3 rfl rfl rfl rfl rfl (Nat.le_of_ble_eq_true rfl) rm_60_50_3 ⟨Nat.le_of_ble_eq_true rfl, Nat.le_of_ble_eq_true rfl⟩ gX12_deal_11.2.2.1 (fun r6682 => Ktu3 fun jr16684 ip16685 gtrc6686 => ?_)
          intro H locs hr6682 hP hD hS
          try dsimp only at hr6682
          refine Kpdr (ws := [(nw, iA G 1662 fnw), (nsh, iA G 4 fnsh), (nsf, iA G 4 fnsf), (h0, oX12 nw nk mhasKept nt mtaped nr mrowMany mroundOf mroundFrom mouts nm mfromHour mtoHour ns mfrom mto msort misFault mdeep mcoded mlines nl nc nF np ntr nb mbestCost nso nsi nit nsh nsf nss nrc (nI jr16684) 1 (nI jno) (fnw (32 + 6 * jno + 0)) (fnw (32 + 6 * jno + 2)) ip16685), (nrc, iA G 30 gtrc6686)]) hP hD (fun hP hD => ?_)
          obtain ⟨hr6682, w6687⟩ := hr6682
          refine lv_istore (lv' := [(7, .int r6682), (6, .int 0), (5, .int 1), (4, .int 1), (0, .ref h0), (1, .int (nI jt)), (2, .int 3), (3, .int x3)]) hx hb gX12_deal_11.2.2.2.1 hl (by decide) rfl (fun ls hl => ?_)
          refine lv_aload_n hx hb gX12_deal_11.2.2.2.2.1 rfl (lv_at4 hl) ?_
          refine gf_X12_380 hC rfl hK hP 3 rfl rfl gX12_deal_11.2.2.2.2.2.1 ?_
          refine lv_if_eq (tgt := 222) hx hb gX12_deal_11.2.2.2.2.2.2.1 (by decide) (fun c_214_6688 => ?_) (fun c_214_6688 => ?_)
          · refine lv_iload hx hb gX12_deal_11.2.2.2.2.2.2.2.2.2 (lv_at0 hl) ?_
            refine toQ hQ0 ?_
            exact RI (v := r6682) hC hP hD hS [3, 0, 1, 2, 4] (jr16684, 1, nI jno, fnw (32 + 6 * jno + 0), fnw (32 + 6 * jno + 2), ip16685, gtrc6686) rfl rfl (by decide) (⟨trivial, by omega⟩) rfl gX12_deal_12
          · refine lv_bipush (v := (-15)) hx hb gX12_deal_11.2.2.2.2.2.2.2.1 (by decide) ?_
            refine lv_goto (tgt := 224) hx hb gX12_deal_11.2.2.2.2.2.2.2.2.1 (by decide) ?_
            refine toQ hQ0 ?_
            exact RI (v := (-15)) hC hP hD hS [3, 0, 1, 2, 4] (jr16684, 1, nI jno, fnw (32 + 6 * jno + 0), fnw (32 + 6 * jno + 2), ip16685, gtrc6686) rfl rfl (by decide) (⟨trivial, by omega⟩) rfl gX12_deal_12
      · refine lv_istore (lv' := [(4, .int 2), (0, .ref h0), (1, .int (nI jt)), (2, .int x2), (3, .int x3)]) hx hb gX12_deal_1.2.2.2.2.1 hl (by decide) rfl (fun ls hl => ?_)
        refine lv_iload hx hb gX12_deal_1.2.2.2.2.2.1 (lv_at0 hl) ?_
        refine lv_if_ge (tgt := 37) hx hb gX12_deal_1.2.2.2.2.2.2.1 (by decide) (fun _ => ?_) (fun c9 => absurd (by decide) c9)
        refine lv_aload_n hx hb gX12_deal_1.2.2.2.2.2.2.2.2.2 rfl (lv_at1 hl) ?_
        refine lv_iload hx hb gX12_deal_2.1 (lv_at0 hl) ?_
        refine pf_X12_354 hC rfl hK hP hD hS 0 (ws' := [(h0, oX12 nw nk mhasKept nt mtaped nr mrowMany mroundOf mroundFrom mouts nm mfromHour mtoHour ns mfrom mto msort misFault mdeep mcoded mlines nl nc nF np ntr nb mbestCost nso nsi nit nsh nsf nss nrc 0 2 mnumber mwhose msize misParted), (nw, iA G 1662 fnw), (nsh, iA G 4 fnsh), (nsf, iA G 4 fnsf), (nrc, iA G 30 fnrc)]) rfl (Nat.le_of_ble_eq_true rfl) rfl rfl rfl gX12_deal_2.2.1 (fun H locs hP hD hS => ?_)
        refine lv_aload_n hx hb gX12_deal_2.2.2.1 rfl (lv_at1 hl) ?_
        refine lv_aload_n hx hb gX12_deal_2.2.2.2.1 rfl (lv_at1 hl) ?_
        refine gf_X12_75 hC rfl hK hP 0 rfl rfl gX12_deal_2.2.2.2.2.1 ?_
        refine lv_iload_n hx hb gX12_deal_2.2.2.2.2.2.1 rfl (lv_at2 hl) ?_
        refine aldN hC hK hP 3 rfl (k := jt) (by omega) (Nat.le_of_ble_eq_true rfl) (v := fnsf jt) rfl gX12_deal_2.2.2.2.2.2.2.1 ?_
        refine lv_topi (fun x6689 ex6689 => ?_)
        obtain ⟨hko9, jno, hjno, ejno⟩ := a6653
        refine eqi (x1 := nI jno) (ex6689.trans ejno) ?_
        refine pf_X12_378 hC rfl hK hP hD hS 0 (ws' := [(h0, oX12 nw nk mhasKept nt mtaped nr mrowMany mroundOf mroundFrom mouts nm mfromHour mtoHour ns mfrom mto msort misFault mdeep mcoded mlines nl nc nF np ntr nb mbestCost nso nsi nit nsh nsf nss nrc 0 2 (nI jno) mwhose msize misParted), (nw, iA G 1662 fnw), (nsh, iA G 4 fnsh), (nsf, iA G 4 fnsf), (nrc, iA G 30 fnrc)]) rfl (Nat.le_of_ble_eq_true rfl) rfl rfl rfl gX12_deal_2.2.2.2.2.2.2.2.1 (fun H locs hP hD hS => ?_)
        refine lv_aload_n hx hb gX12_deal_2.2.2.2.2.2.2.2.2.1 rfl (lv_at1 hl) ?_
        refine gf_X12_72 hC rfl hK hP 0 rfl rfl gX12_deal_2.2.2.2.2.2.2.2.2.2 ?_
        refine lv_iload_n hx hb gX12_deal_3.1 rfl (lv_at2 hl) ?_
        refine aldN hC hK hP 2 rfl (k := jt) (by omega) (Nat.le_of_ble_eq_true rfl) (v := fnsh jt) rfl gX12_deal_3.2.1 ?_
        refine lv_topi (fun x6690 ex6690 => ?_)
        refine lv_iconst (v := 1) hx hb gX12_deal_3.2.2.1 (by decide) ?_
        refine lv_icmp_ne (tgt := 67) hx hb gX12_deal_3.2.2.2.1 (by decide) (fun c9 => absurd (ex6690.trans hko9) c9) (fun _ => ?_)
        refine lv_iconst (v := 1) hx hb gX12_deal_3.2.2.2.2.1 (by decide) ?_
        refine lv_goto (tgt := 68) hx hb gX12_deal_3.2.2.2.2.2.1 (by decide) ?_
        refine lv_istore (lv' := [(5, .int 1), (4, .int 2), (0, .ref h0), (1, .int (nI jt)), (2, .int x2), (3, .int x3)]) hx hb gX12_deal_3.2.2.2.2.2.2.2.1 hl (by decide) rfl (fun ls hl => ?_)
        refine lv_aload_n hx hb gX12_deal_3.2.2.2.2.2.2.2.2.1 rfl (lv_at2 hl) ?_
        refine gf_X12_72 hC rfl hK hP 0 rfl rfl gX12_deal_3.2.2.2.2.2.2.2.2.2 ?_
        refine lv_iload_n hx hb gX12_deal_4.1 rfl (lv_at3 hl) ?_
        refine aldN hC hK hP 2 rfl (k := jt) (by omega) (Nat.le_of_ble_eq_true rfl) (v := fnsh jt) rfl gX12_deal_4.2.1 ?_
        refine lv_topi (fun x6691 ex6691 => ?_)
        refine lv_iconst (v := 2) hx hb gX12_deal_4.2.2.1 (by decide) ?_
        refine lv_icmp_ne (tgt := 84) hx hb gX12_deal_4.2.2.2.1 (by decide) (fun _ => ?_) (fun c9 => absurd c9 (fun h9 => absurd (hko9.symm.trans ((ex6691.symm).trans h9)) (by decide)))
        refine lv_iconst (v := 0) hx hb gX12_deal_4.2.2.2.2.2.2.1 (by decide) ?_
        refine lv_istore (lv' := [(6, .int 0), (5, .int 1), (4, .int 2), (0, .ref h0), (1, .int (nI jt)), (2, .int x2), (3, .int x3)]) hx hb gX12_deal_4.2.2.2.2.2.2.2.1 hl (by decide) rfl (fun ls hl => ?_)
        refine lv_aload_n hx hb gX12_deal_4.2.2.2.2.2.2.2.2.1 rfl (lv_at3 hl) ?_
        refine lv_iload hx hb gX12_deal_4.2.2.2.2.2.2.2.2.2 (lv_at1 hl) ?_
        refine lv_if_eq (tgt := 105) hx hb gX12_deal_5.1 (by decide) (fun c9 => absurd c9 (by decide)) (fun _ => ?_)
        refine lv_aload_n hx hb gX12_deal_5.2.1 rfl (lv_at3 hl) ?_
        refine lv_aload_n hx hb gX12_deal_5.2.2.1 rfl (lv_at3 hl) ?_
        refine gf_X12_378 hC rfl hK hP 0 rfl rfl gX12_deal_5.2.2.2.1 ?_
        refine lv_iconst (v := 0) hx hb gX12_deal_5.2.2.2.2.1 (by decide) ?_
        refine pV hC hK hl hP hD (m_paper l G h0 jno 0 nw nk mhasKept nt mtaped nr mrowMany mroundOf mroundFrom mouts nm mfromHour mtoHour ns mfrom mto msort misFault mdeep mcoded mlines nl nc nF np ntr nb mbestCost nso nsi nit nsh nsf nss nrc 0 2 (nI jno) mwhose msize misParted fnw (by omega) (by omega)) si_X12_88 [0, 1] sm_0_1 fm_0_1 nd_0_1 rfl rfl rfl rfl rfl (Nat.le_of_ble_eq_true rfl) rm_60_1_3 ⟨by first | exact Nat.le_of_ble_eq_true rfl | exact Nat.zero_le _, by first | exact Nat.le_of_ble_eq_true rfl | exact Nat.zero_le _⟩ gX12_deal_5.2.2.2.2.2.1 (Keqr ?_)
        refine lv_goto (tgt := 139) hx hb gX12_deal_5.2.2.2.2.2.2.1 (by decide) ?_
        refine pf_X12_375 hC rfl hK hP hD hS 0 (ws' := [(h0, oX12 nw nk mhasKept nt mtaped nr mrowMany mroundOf mroundFrom mouts nm mfromHour mtoHour ns mfrom mto msort misFault mdeep mcoded mlines nl nc nF np ntr nb mbestCost nso nsi nit nsh nsf nss nrc 0 2 (nI jno) (fnw (32 + 6 * jno + 0)) msize misParted), (nw, iA G 1662 fnw), (nsh, iA G 4 fnsh), (nsf, iA G 4 fnsf), (nrc, iA G 30 fnrc)]) rfl (Nat.le_of_ble_eq_true rfl) rfl rfl rfl gX12_deal_7.2.2.2.2.2.2.1 (fun H locs hP hD hS => ?_)
        refine lv_aload_n hx hb gX12_deal_7.2.2.2.2.2.2.2.1 rfl (lv_at3 hl) ?_
        refine lv_iload hx hb gX12_deal_7.2.2.2.2.2.2.2.2.1 (lv_at1 hl) ?_
        refine lv_if_eq (tgt := 160) hx hb gX12_deal_7.2.2.2.2.2.2.2.2.2 (by decide) (fun c9 => absurd c9 (by decide)) (fun _ => ?_)
        refine lv_aload_n hx hb gX12_deal_8.1 rfl (lv_at3 hl) ?_
        refine lv_aload_n hx hb gX12_deal_8.2.1 rfl (lv_at3 hl) ?_
        refine gf_X12_378 hC rfl hK hP 0 rfl rfl gX12_deal_8.2.2.1 ?_
        refine lv_iconst (v := 2) hx hb gX12_deal_8.2.2.2.1 (by decide) ?_
        refine pV hC hK hl hP hD (m_paper l G h0 jno 2 nw nk mhasKept nt mtaped nr mrowMany mroundOf mroundFrom mouts nm mfromHour mtoHour ns mfrom mto msort misFault mdeep mcoded mlines nl nc nF np ntr nb mbestCost nso nsi nit nsh nsf nss nrc 0 2 (nI jno) (fnw (32 + 6 * jno + 0)) msize misParted fnw (by omega) (by omega)) si_X12_88 [0, 1] sm_0_1 fm_0_1 nd_0_1 rfl rfl rfl rfl rfl (Nat.le_of_ble_eq_true rfl) rm_60_1_3 ⟨by first | exact Nat.le_of_ble_eq_true rfl | exact Nat.zero_le _, by first | exact Nat.le_of_ble_eq_true rfl | exact Nat.zero_le _⟩ gX12_deal_8.2.2.2.2.1 (Keqr ?_)
        refine lv_goto (tgt := 194) hx hb gX12_deal_8.2.2.2.2.2.1 (by decide) ?_
        refine pf_X12_369 hC rfl hK hP hD hS 0 (ws' := [(h0, oX12 nw nk mhasKept nt mtaped nr mrowMany mroundOf mroundFrom mouts nm mfromHour mtoHour ns mfrom mto msort misFault mdeep mcoded mlines nl nc nF np ntr nb mbestCost nso nsi nit nsh nsf nss nrc 0 2 (nI jno) (fnw (32 + 6 * jno + 0)) (fnw (32 + 6 * jno + 2)) misParted), (nw, iA G 1662 fnw), (nsh, iA G 4 fnsh), (nsf, iA G 4 fnsf), (nrc, iA G 30 fnrc)]) rfl (Nat.le_of_ble_eq_true rfl) rfl rfl rfl gX12_deal_10.2.2.2.2.2.1 (fun H locs hP hD hS => ?_)
        refine lv_aload_n hx hb gX12_deal_10.2.2.2.2.2.2.1 rfl (lv_at3 hl) ?_
        refine lv_iconst (v := 0) hx hb gX12_deal_10.2.2.2.2.2.2.2.1 (by decide) ?_
        refine pf_X12_380 hC rfl hK hP hD hS 0 (ws' := [(h0, oX12 nw nk mhasKept nt mtaped nr mrowMany mroundOf mroundFrom mouts nm mfromHour mtoHour ns mfrom mto msort misFault mdeep mcoded mlines nl nc nF np ntr nb mbestCost nso nsi nit nsh nsf nss nrc 0 2 (nI jno) (fnw (32 + 6 * jno + 0)) (fnw (32 + 6 * jno + 2)) 0), (nw, iA G 1662 fnw), (nsh, iA G 4 fnsh), (nsf, iA G 4 fnsf), (nrc, iA G 30 fnrc)]) rfl (Nat.le_of_ble_eq_true rfl) rfl (by decide +kernel) (by decide +kernel) gX12_deal_10.2.2.2.2.2.2.2.2.1 (fun H locs hP hD hS => ?_)
        obtain ⟨jdl, hjdl, rfl⟩ := Wi_nat (N := 3) (by decide) a6651
        rcases (show jdl = 0 ∨ jdl = 1 ∨ jdl = 2 ∨ jdl = 3 by omega) with rfl | rfl | rfl | rfl
        · refine lv_aload_n hx hb gX12_deal_10.2.2.2.2.2.2.2.2.2 rfl (lv_at3 hl) ?_
          refine lv_iload_n hx hb gX12_deal_11.1 rfl (lv_at5 hl) ?_
          refine lv_iload_n hx hb gX12_deal_11.2.1 rfl (lv_at6 hl) ?_
          refine iV (wr := [(nw, iA G 1662 fnw), (nsh, iA G 4 fnsh), (nsf, iA G 4 fnsf)]) hC hK hl hP hD hS hA (m_dealt0 l G h0 x3 nw nk mhasKept nt mtaped nr mrowMany mroundOf mroundFrom mouts nm mfromHour mtoHour ns mfrom mto msort misFault mdeep mcoded mlines nl nc nF np ntr nb mbestCost nso nsi nit nsh nsf nss nrc 0 2 (nI jno) (fnw (32 + 6 * jno + 0)) (fnw (32 + 6 * jno + 2)) 0 fnrc (by omega) (by omega)) si_X12_372 [0, 4] [1, 2, 3] sm_0_4 fm_0_4 nd_0_4 sm_1_2_3 nd_1_2_3 dj_0_4__1_2_3 rfl rfl rfl rfl rfl (Nat.le_of_ble_eq_true rfl) rm_60_14_3 ⟨Nat.le_of_ble_eq_true rfl, Nat.le_of_ble_eq_true rfl⟩ gX12_deal_11.2.2.1 (fun r6696 => Ktu3 fun jr16698 ip16699 gtrc6700 => ?_)
          intro H locs hr6696 hP hD hS
          try dsimp only at hr6696
          refine Kpdr (ws := [(nw, iA G 1662 fnw), (nsh, iA G 4 fnsh), (nsf, iA G 4 fnsf), (h0, oX12 nw nk mhasKept nt mtaped nr mrowMany mroundOf mroundFrom mouts nm mfromHour mtoHour ns mfrom mto msort misFault mdeep mcoded mlines nl nc nF np ntr nb mbestCost nso nsi nit nsh nsf nss nrc (nI jr16698) 2 (nI jno) (fnw (32 + 6 * jno + 0)) (fnw (32 + 6 * jno + 2)) ip16699), (nrc, iA G 30 gtrc6700)]) hP hD (fun hP hD => ?_)
          obtain ⟨hr6696, w6701⟩ := hr6696
          refine lv_istore (lv' := [(7, .int r6696), (6, .int 0), (5, .int 1), (4, .int 2), (0, .ref h0), (1, .int (nI jt)), (2, .int 0), (3, .int x3)]) hx hb gX12_deal_11.2.2.2.1 hl (by decide) rfl (fun ls hl => ?_)
          refine lv_aload_n hx hb gX12_deal_11.2.2.2.2.1 rfl (lv_at4 hl) ?_
          refine gf_X12_380 hC rfl hK hP 3 rfl rfl gX12_deal_11.2.2.2.2.2.1 ?_
          refine lv_if_eq (tgt := 222) hx hb gX12_deal_11.2.2.2.2.2.2.1 (by decide) (fun c_214_6702 => ?_) (fun c_214_6702 => ?_)
          · refine lv_iload hx hb gX12_deal_11.2.2.2.2.2.2.2.2.2 (lv_at0 hl) ?_
            refine toQ hQ0 ?_
            exact RI (v := r6696) hC hP hD hS [3, 0, 1, 2, 4] (jr16698, 2, nI jno, fnw (32 + 6 * jno + 0), fnw (32 + 6 * jno + 2), ip16699, gtrc6700) rfl rfl (by decide) (⟨trivial, by omega⟩) rfl gX12_deal_12
          · refine lv_bipush (v := (-15)) hx hb gX12_deal_11.2.2.2.2.2.2.2.1 (by decide) ?_
            refine lv_goto (tgt := 224) hx hb gX12_deal_11.2.2.2.2.2.2.2.2.1 (by decide) ?_
            refine toQ hQ0 ?_
            exact RI (v := (-15)) hC hP hD hS [3, 0, 1, 2, 4] (jr16698, 2, nI jno, fnw (32 + 6 * jno + 0), fnw (32 + 6 * jno + 2), ip16699, gtrc6700) rfl rfl (by decide) (⟨trivial, by omega⟩) rfl gX12_deal_12
        · refine lv_aload_n hx hb gX12_deal_10.2.2.2.2.2.2.2.2.2 rfl (lv_at3 hl) ?_
          refine lv_iload_n hx hb gX12_deal_11.1 rfl (lv_at5 hl) ?_
          refine lv_iload_n hx hb gX12_deal_11.2.1 rfl (lv_at6 hl) ?_
          refine iV (wr := [(nw, iA G 1662 fnw), (nsh, iA G 4 fnsh), (nsf, iA G 4 fnsf)]) hC hK hl hP hD hS hA (m_dealt1 l G h0 x3 nw nk mhasKept nt mtaped nr mrowMany mroundOf mroundFrom mouts nm mfromHour mtoHour ns mfrom mto msort misFault mdeep mcoded mlines nl nc nF np ntr nb mbestCost nso nsi nit nsh nsf nss nrc 0 2 (nI jno) (fnw (32 + 6 * jno + 0)) (fnw (32 + 6 * jno + 2)) 0 fnrc (by omega) (by omega)) si_X12_372 [0, 4] [1, 2, 3] sm_0_4 fm_0_4 nd_0_4 sm_1_2_3 nd_1_2_3 dj_0_4__1_2_3 rfl rfl rfl rfl rfl (Nat.le_of_ble_eq_true rfl) rm_60_26_3 ⟨Nat.le_of_ble_eq_true rfl, Nat.le_of_ble_eq_true rfl⟩ gX12_deal_11.2.2.1 (fun r6703 => Ktu3 fun jr16705 ip16706 gtrc6707 => ?_)
          intro H locs hr6703 hP hD hS
          try dsimp only at hr6703
          refine Kpdr (ws := [(nw, iA G 1662 fnw), (nsh, iA G 4 fnsh), (nsf, iA G 4 fnsf), (h0, oX12 nw nk mhasKept nt mtaped nr mrowMany mroundOf mroundFrom mouts nm mfromHour mtoHour ns mfrom mto msort misFault mdeep mcoded mlines nl nc nF np ntr nb mbestCost nso nsi nit nsh nsf nss nrc (nI jr16705) 2 (nI jno) (fnw (32 + 6 * jno + 0)) (fnw (32 + 6 * jno + 2)) ip16706), (nrc, iA G 30 gtrc6707)]) hP hD (fun hP hD => ?_)
          obtain ⟨hr6703, w6708⟩ := hr6703
          refine lv_istore (lv' := [(7, .int r6703), (6, .int 0), (5, .int 1), (4, .int 2), (0, .ref h0), (1, .int (nI jt)), (2, .int 1), (3, .int x3)]) hx hb gX12_deal_11.2.2.2.1 hl (by decide) rfl (fun ls hl => ?_)
          refine lv_aload_n hx hb gX12_deal_11.2.2.2.2.1 rfl (lv_at4 hl) ?_
          refine gf_X12_380 hC rfl hK hP 3 rfl rfl gX12_deal_11.2.2.2.2.2.1 ?_
          refine lv_if_eq (tgt := 222) hx hb gX12_deal_11.2.2.2.2.2.2.1 (by decide) (fun c_214_6709 => ?_) (fun c_214_6709 => ?_)
          · refine lv_iload hx hb gX12_deal_11.2.2.2.2.2.2.2.2.2 (lv_at0 hl) ?_
            refine toQ hQ0 ?_
            exact RI (v := r6703) hC hP hD hS [3, 0, 1, 2, 4] (jr16705, 2, nI jno, fnw (32 + 6 * jno + 0), fnw (32 + 6 * jno + 2), ip16706, gtrc6707) rfl rfl (by decide) (⟨trivial, by omega⟩) rfl gX12_deal_12
          · refine lv_bipush (v := (-15)) hx hb gX12_deal_11.2.2.2.2.2.2.2.1 (by decide) ?_
            refine lv_goto (tgt := 224) hx hb gX12_deal_11.2.2.2.2.2.2.2.2.1 (by decide) ?_
            refine toQ hQ0 ?_
            exact RI (v := (-15)) hC hP hD hS [3, 0, 1, 2, 4] (jr16705, 2, nI jno, fnw (32 + 6 * jno + 0), fnw (32 + 6 * jno + 2), ip16706, gtrc6707) rfl rfl (by decide) (⟨trivial, by omega⟩) rfl gX12_deal_12
        · refine lv_aload_n hx hb gX12_deal_10.2.2.2.2.2.2.2.2.2 rfl (lv_at3 hl) ?_
          refine lv_iload_n hx hb gX12_deal_11.1 rfl (lv_at5 hl) ?_
          refine lv_iload_n hx hb gX12_deal_11.2.1 rfl (lv_at6 hl) ?_
          refine iV (wr := [(nw, iA G 1662 fnw), (nsh, iA G 4 fnsh), (nsf, iA G 4 fnsf)]) hC hK hl hP hD hS hA (m_dealt2 l G h0 x3 nw nk mhasKept nt mtaped nr mrowMany mroundOf mroundFrom mouts nm mfromHour mtoHour ns mfrom mto msort misFault mdeep mcoded mlines nl nc nF np ntr nb mbestCost nso nsi nit nsh nsf nss nrc 0 2 (nI jno) (fnw (32 + 6 * jno + 0)) (fnw (32 + 6 * jno + 2)) 0 fnrc (by omega) (by omega)) si_X12_372 [0, 4] [1, 2, 3] sm_0_4 fm_0_4 nd_0_4 sm_1_2_3 nd_1_2_3 dj_0_4__1_2_3 rfl rfl rfl rfl rfl (Nat.le_of_ble_eq_true rfl) rm_60_38_3 ⟨Nat.le_of_ble_eq_true rfl, Nat.le_of_ble_eq_true rfl⟩ gX12_deal_11.2.2.1 (fun r6710 => Ktu3 fun jr16712 ip16713 gtrc6714 => ?_)
          intro H locs hr6710 hP hD hS
          try dsimp only at hr6710
          refine Kpdr (ws := [(nw, iA G 1662 fnw), (nsh, iA G 4 fnsh), (nsf, iA G 4 fnsf), (h0, oX12 nw nk mhasKept nt mtaped nr mrowMany mroundOf mroundFrom mouts nm mfromHour mtoHour ns mfrom mto msort misFault mdeep mcoded mlines nl nc nF np ntr nb mbestCost nso nsi nit nsh nsf nss nrc (nI jr16712) 2 (nI jno) (fnw (32 + 6 * jno + 0)) (fnw (32 + 6 * jno + 2)) ip16713), (nrc, iA G 30 gtrc6714)]) hP hD (fun hP hD => ?_)
          obtain ⟨hr6710, w6715⟩ := hr6710
          refine lv_istore (lv' := [(7, .int r6710), (6, .int 0), (5, .int 1), (4, .int 2), (0, .ref h0), (1, .int (nI jt)), (2, .int 2), (3, .int x3)]) hx hb gX12_deal_11.2.2.2.1 hl (by decide) rfl (fun ls hl => ?_)
          refine lv_aload_n hx hb gX12_deal_11.2.2.2.2.1 rfl (lv_at4 hl) ?_
          refine gf_X12_380 hC rfl hK hP 3 rfl rfl gX12_deal_11.2.2.2.2.2.1 ?_
          refine lv_if_eq (tgt := 222) hx hb gX12_deal_11.2.2.2.2.2.2.1 (by decide) (fun c_214_6716 => ?_) (fun c_214_6716 => ?_)
          · refine lv_iload hx hb gX12_deal_11.2.2.2.2.2.2.2.2.2 (lv_at0 hl) ?_
            refine toQ hQ0 ?_
            exact RI (v := r6710) hC hP hD hS [3, 0, 1, 2, 4] (jr16712, 2, nI jno, fnw (32 + 6 * jno + 0), fnw (32 + 6 * jno + 2), ip16713, gtrc6714) rfl rfl (by decide) (⟨trivial, by omega⟩) rfl gX12_deal_12
          · refine lv_bipush (v := (-15)) hx hb gX12_deal_11.2.2.2.2.2.2.2.1 (by decide) ?_
            refine lv_goto (tgt := 224) hx hb gX12_deal_11.2.2.2.2.2.2.2.2.1 (by decide) ?_
            refine toQ hQ0 ?_
            exact RI (v := (-15)) hC hP hD hS [3, 0, 1, 2, 4] (jr16712, 2, nI jno, fnw (32 + 6 * jno + 0), fnw (32 + 6 * jno + 2), ip16713, gtrc6714) rfl rfl (by decide) (⟨trivial, by omega⟩) rfl gX12_deal_12
        · refine lv_aload_n hx hb gX12_deal_10.2.2.2.2.2.2.2.2.2 rfl (lv_at3 hl) ?_
          refine lv_iload_n hx hb gX12_deal_11.1 rfl (lv_at5 hl) ?_
          refine lv_iload_n hx hb gX12_deal_11.2.1 rfl (lv_at6 hl) ?_
          refine iV (wr := [(nw, iA G 1662 fnw), (nsh, iA G 4 fnsh), (nsf, iA G 4 fnsf)]) hC hK hl hP hD hS hA (m_dealt3 l G h0 x3 nw nk mhasKept nt mtaped nr mrowMany mroundOf mroundFrom mouts nm mfromHour mtoHour ns mfrom mto msort misFault mdeep mcoded mlines nl nc nF np ntr nb mbestCost nso nsi nit nsh nsf nss nrc 0 2 (nI jno) (fnw (32 + 6 * jno + 0)) (fnw (32 + 6 * jno + 2)) 0 fnrc (by omega) (by omega)) si_X12_372 [0, 4] [1, 2, 3] sm_0_4 fm_0_4 nd_0_4 sm_1_2_3 nd_1_2_3 dj_0_4__1_2_3 rfl rfl rfl rfl rfl (Nat.le_of_ble_eq_true rfl) rm_60_50_3 ⟨Nat.le_of_ble_eq_true rfl, Nat.le_of_ble_eq_true rfl⟩ gX12_deal_11.2.2.1 (fun r6717 => Ktu3 fun jr16719 ip16720 gtrc6721 => ?_)
          intro H locs hr6717 hP hD hS
          try dsimp only at hr6717
          refine Kpdr (ws := [(nw, iA G 1662 fnw), (nsh, iA G 4 fnsh), (nsf, iA G 4 fnsf), (h0, oX12 nw nk mhasKept nt mtaped nr mrowMany mroundOf mroundFrom mouts nm mfromHour mtoHour ns mfrom mto msort misFault mdeep mcoded mlines nl nc nF np ntr nb mbestCost nso nsi nit nsh nsf nss nrc (nI jr16719) 2 (nI jno) (fnw (32 + 6 * jno + 0)) (fnw (32 + 6 * jno + 2)) ip16720), (nrc, iA G 30 gtrc6721)]) hP hD (fun hP hD => ?_)
          obtain ⟨hr6717, w6722⟩ := hr6717
          refine lv_istore (lv' := [(7, .int r6717), (6, .int 0), (5, .int 1), (4, .int 2), (0, .ref h0), (1, .int (nI jt)), (2, .int 3), (3, .int x3)]) hx hb gX12_deal_11.2.2.2.1 hl (by decide) rfl (fun ls hl => ?_)
          refine lv_aload_n hx hb gX12_deal_11.2.2.2.2.1 rfl (lv_at4 hl) ?_
          refine gf_X12_380 hC rfl hK hP 3 rfl rfl gX12_deal_11.2.2.2.2.2.1 ?_
          refine lv_if_eq (tgt := 222) hx hb gX12_deal_11.2.2.2.2.2.2.1 (by decide) (fun c_214_6723 => ?_) (fun c_214_6723 => ?_)
          · refine lv_iload hx hb gX12_deal_11.2.2.2.2.2.2.2.2.2 (lv_at0 hl) ?_
            refine toQ hQ0 ?_
            exact RI (v := r6717) hC hP hD hS [3, 0, 1, 2, 4] (jr16719, 2, nI jno, fnw (32 + 6 * jno + 0), fnw (32 + 6 * jno + 2), ip16720, gtrc6721) rfl rfl (by decide) (⟨trivial, by omega⟩) rfl gX12_deal_12
          · refine lv_bipush (v := (-15)) hx hb gX12_deal_11.2.2.2.2.2.2.2.1 (by decide) ?_
            refine lv_goto (tgt := 224) hx hb gX12_deal_11.2.2.2.2.2.2.2.2.1 (by decide) ?_
            refine toQ hQ0 ?_
            exact RI (v := (-15)) hC hP hD hS [3, 0, 1, 2, 4] (jr16719, 2, nI jno, fnw (32 + 6 * jno + 0), fnw (32 + 6 * jno + 2), ip16720, gtrc6721) rfl rfl (by decide) (⟨trivial, by omega⟩) rfl gX12_deal_12
      · refine lv_istore (lv' := [(4, .int 3), (0, .ref h0), (1, .int (nI jt)), (2, .int x2), (3, .int x3)]) hx hb gX12_deal_1.2.2.2.2.1 hl (by decide) rfl (fun ls hl => ?_)
        refine lv_iload hx hb gX12_deal_1.2.2.2.2.2.1 (lv_at0 hl) ?_
        refine lv_if_ge (tgt := 37) hx hb gX12_deal_1.2.2.2.2.2.2.1 (by decide) (fun _ => ?_) (fun c9 => absurd (by decide) c9)
        refine lv_aload_n hx hb gX12_deal_1.2.2.2.2.2.2.2.2.2 rfl (lv_at1 hl) ?_
        refine lv_iload hx hb gX12_deal_2.1 (lv_at0 hl) ?_
        refine pf_X12_354 hC rfl hK hP hD hS 0 (ws' := [(h0, oX12 nw nk mhasKept nt mtaped nr mrowMany mroundOf mroundFrom mouts nm mfromHour mtoHour ns mfrom mto msort misFault mdeep mcoded mlines nl nc nF np ntr nb mbestCost nso nsi nit nsh nsf nss nrc 0 3 mnumber mwhose msize misParted), (nw, iA G 1662 fnw), (nsh, iA G 4 fnsh), (nsf, iA G 4 fnsf), (nrc, iA G 30 fnrc)]) rfl (Nat.le_of_ble_eq_true rfl) rfl rfl rfl gX12_deal_2.2.1 (fun H locs hP hD hS => ?_)
        refine lv_aload_n hx hb gX12_deal_2.2.2.1 rfl (lv_at1 hl) ?_
        refine lv_aload_n hx hb gX12_deal_2.2.2.2.1 rfl (lv_at1 hl) ?_
        refine gf_X12_75 hC rfl hK hP 0 rfl rfl gX12_deal_2.2.2.2.2.1 ?_
        refine lv_iload_n hx hb gX12_deal_2.2.2.2.2.2.1 rfl (lv_at2 hl) ?_
        refine aldN hC hK hP 3 rfl (k := jt) (by omega) (Nat.le_of_ble_eq_true rfl) (v := fnsf jt) rfl gX12_deal_2.2.2.2.2.2.2.1 ?_
        refine lv_topi (fun x6724 ex6724 => ?_)
        obtain ⟨hko9, jno, hjno, ejno⟩ := a6653
        refine eqi (x1 := nI jno) (ex6724.trans ejno) ?_
        refine pf_X12_378 hC rfl hK hP hD hS 0 (ws' := [(h0, oX12 nw nk mhasKept nt mtaped nr mrowMany mroundOf mroundFrom mouts nm mfromHour mtoHour ns mfrom mto msort misFault mdeep mcoded mlines nl nc nF np ntr nb mbestCost nso nsi nit nsh nsf nss nrc 0 3 (nI jno) mwhose msize misParted), (nw, iA G 1662 fnw), (nsh, iA G 4 fnsh), (nsf, iA G 4 fnsf), (nrc, iA G 30 fnrc)]) rfl (Nat.le_of_ble_eq_true rfl) rfl rfl rfl gX12_deal_2.2.2.2.2.2.2.2.1 (fun H locs hP hD hS => ?_)
        refine lv_aload_n hx hb gX12_deal_2.2.2.2.2.2.2.2.2.1 rfl (lv_at1 hl) ?_
        refine gf_X12_72 hC rfl hK hP 0 rfl rfl gX12_deal_2.2.2.2.2.2.2.2.2.2 ?_
        refine lv_iload_n hx hb gX12_deal_3.1 rfl (lv_at2 hl) ?_
        refine aldN hC hK hP 2 rfl (k := jt) (by omega) (Nat.le_of_ble_eq_true rfl) (v := fnsh jt) rfl gX12_deal_3.2.1 ?_
        refine lv_topi (fun x6725 ex6725 => ?_)
        refine lv_iconst (v := 1) hx hb gX12_deal_3.2.2.1 (by decide) ?_
        refine lv_icmp_ne (tgt := 67) hx hb gX12_deal_3.2.2.2.1 (by decide) (fun c9 => absurd (ex6725.trans hko9) c9) (fun _ => ?_)
        refine lv_iconst (v := 1) hx hb gX12_deal_3.2.2.2.2.1 (by decide) ?_
        refine lv_goto (tgt := 68) hx hb gX12_deal_3.2.2.2.2.2.1 (by decide) ?_
        refine lv_istore (lv' := [(5, .int 1), (4, .int 3), (0, .ref h0), (1, .int (nI jt)), (2, .int x2), (3, .int x3)]) hx hb gX12_deal_3.2.2.2.2.2.2.2.1 hl (by decide) rfl (fun ls hl => ?_)
        refine lv_aload_n hx hb gX12_deal_3.2.2.2.2.2.2.2.2.1 rfl (lv_at2 hl) ?_
        refine gf_X12_72 hC rfl hK hP 0 rfl rfl gX12_deal_3.2.2.2.2.2.2.2.2.2 ?_
        refine lv_iload_n hx hb gX12_deal_4.1 rfl (lv_at3 hl) ?_
        refine aldN hC hK hP 2 rfl (k := jt) (by omega) (Nat.le_of_ble_eq_true rfl) (v := fnsh jt) rfl gX12_deal_4.2.1 ?_
        refine lv_topi (fun x6726 ex6726 => ?_)
        refine lv_iconst (v := 2) hx hb gX12_deal_4.2.2.1 (by decide) ?_
        refine lv_icmp_ne (tgt := 84) hx hb gX12_deal_4.2.2.2.1 (by decide) (fun _ => ?_) (fun c9 => absurd c9 (fun h9 => absurd (hko9.symm.trans ((ex6726.symm).trans h9)) (by decide)))
        refine lv_iconst (v := 0) hx hb gX12_deal_4.2.2.2.2.2.2.1 (by decide) ?_
        refine lv_istore (lv' := [(6, .int 0), (5, .int 1), (4, .int 3), (0, .ref h0), (1, .int (nI jt)), (2, .int x2), (3, .int x3)]) hx hb gX12_deal_4.2.2.2.2.2.2.2.1 hl (by decide) rfl (fun ls hl => ?_)
        refine lv_aload_n hx hb gX12_deal_4.2.2.2.2.2.2.2.2.1 rfl (lv_at3 hl) ?_
        refine lv_iload hx hb gX12_deal_4.2.2.2.2.2.2.2.2.2 (lv_at1 hl) ?_
        refine lv_if_eq (tgt := 105) hx hb gX12_deal_5.1 (by decide) (fun c9 => absurd c9 (by decide)) (fun _ => ?_)
        refine lv_aload_n hx hb gX12_deal_5.2.1 rfl (lv_at3 hl) ?_
        refine lv_aload_n hx hb gX12_deal_5.2.2.1 rfl (lv_at3 hl) ?_
        refine gf_X12_378 hC rfl hK hP 0 rfl rfl gX12_deal_5.2.2.2.1 ?_
        refine lv_iconst (v := 0) hx hb gX12_deal_5.2.2.2.2.1 (by decide) ?_
        refine pV hC hK hl hP hD (m_paper l G h0 jno 0 nw nk mhasKept nt mtaped nr mrowMany mroundOf mroundFrom mouts nm mfromHour mtoHour ns mfrom mto msort misFault mdeep mcoded mlines nl nc nF np ntr nb mbestCost nso nsi nit nsh nsf nss nrc 0 3 (nI jno) mwhose msize misParted fnw (by omega) (by omega)) si_X12_88 [0, 1] sm_0_1 fm_0_1 nd_0_1 rfl rfl rfl rfl rfl (Nat.le_of_ble_eq_true rfl) rm_60_1_3 ⟨by first | exact Nat.le_of_ble_eq_true rfl | exact Nat.zero_le _, by first | exact Nat.le_of_ble_eq_true rfl | exact Nat.zero_le _⟩ gX12_deal_5.2.2.2.2.2.1 (Keqr ?_)
        refine lv_goto (tgt := 139) hx hb gX12_deal_5.2.2.2.2.2.2.1 (by decide) ?_
        refine pf_X12_375 hC rfl hK hP hD hS 0 (ws' := [(h0, oX12 nw nk mhasKept nt mtaped nr mrowMany mroundOf mroundFrom mouts nm mfromHour mtoHour ns mfrom mto msort misFault mdeep mcoded mlines nl nc nF np ntr nb mbestCost nso nsi nit nsh nsf nss nrc 0 3 (nI jno) (fnw (32 + 6 * jno + 0)) msize misParted), (nw, iA G 1662 fnw), (nsh, iA G 4 fnsh), (nsf, iA G 4 fnsf), (nrc, iA G 30 fnrc)]) rfl (Nat.le_of_ble_eq_true rfl) rfl rfl rfl gX12_deal_7.2.2.2.2.2.2.1 (fun H locs hP hD hS => ?_)
        refine lv_aload_n hx hb gX12_deal_7.2.2.2.2.2.2.2.1 rfl (lv_at3 hl) ?_
        refine lv_iload hx hb gX12_deal_7.2.2.2.2.2.2.2.2.1 (lv_at1 hl) ?_
        refine lv_if_eq (tgt := 160) hx hb gX12_deal_7.2.2.2.2.2.2.2.2.2 (by decide) (fun c9 => absurd c9 (by decide)) (fun _ => ?_)
        refine lv_aload_n hx hb gX12_deal_8.1 rfl (lv_at3 hl) ?_
        refine lv_aload_n hx hb gX12_deal_8.2.1 rfl (lv_at3 hl) ?_
        refine gf_X12_378 hC rfl hK hP 0 rfl rfl gX12_deal_8.2.2.1 ?_
        refine lv_iconst (v := 2) hx hb gX12_deal_8.2.2.2.1 (by decide) ?_
        refine pV hC hK hl hP hD (m_paper l G h0 jno 2 nw nk mhasKept nt mtaped nr mrowMany mroundOf mroundFrom mouts nm mfromHour mtoHour ns mfrom mto msort misFault mdeep mcoded mlines nl nc nF np ntr nb mbestCost nso nsi nit nsh nsf nss nrc 0 3 (nI jno) (fnw (32 + 6 * jno + 0)) msize misParted fnw (by omega) (by omega)) si_X12_88 [0, 1] sm_0_1 fm_0_1 nd_0_1 rfl rfl rfl rfl rfl (Nat.le_of_ble_eq_true rfl) rm_60_1_3 ⟨by first | exact Nat.le_of_ble_eq_true rfl | exact Nat.zero_le _, by first | exact Nat.le_of_ble_eq_true rfl | exact Nat.zero_le _⟩ gX12_deal_8.2.2.2.2.1 (Keqr ?_)
        refine lv_goto (tgt := 194) hx hb gX12_deal_8.2.2.2.2.2.1 (by decide) ?_
        refine pf_X12_369 hC rfl hK hP hD hS 0 (ws' := [(h0, oX12 nw nk mhasKept nt mtaped nr mrowMany mroundOf mroundFrom mouts nm mfromHour mtoHour ns mfrom mto msort misFault mdeep mcoded mlines nl nc nF np ntr nb mbestCost nso nsi nit nsh nsf nss nrc 0 3 (nI jno) (fnw (32 + 6 * jno + 0)) (fnw (32 + 6 * jno + 2)) misParted), (nw, iA G 1662 fnw), (nsh, iA G 4 fnsh), (nsf, iA G 4 fnsf), (nrc, iA G 30 fnrc)]) rfl (Nat.le_of_ble_eq_true rfl) rfl rfl rfl gX12_deal_10.2.2.2.2.2.1 (fun H locs hP hD hS => ?_)
        refine lv_aload_n hx hb gX12_deal_10.2.2.2.2.2.2.1 rfl (lv_at3 hl) ?_
        refine lv_iconst (v := 0) hx hb gX12_deal_10.2.2.2.2.2.2.2.1 (by decide) ?_
        refine pf_X12_380 hC rfl hK hP hD hS 0 (ws' := [(h0, oX12 nw nk mhasKept nt mtaped nr mrowMany mroundOf mroundFrom mouts nm mfromHour mtoHour ns mfrom mto msort misFault mdeep mcoded mlines nl nc nF np ntr nb mbestCost nso nsi nit nsh nsf nss nrc 0 3 (nI jno) (fnw (32 + 6 * jno + 0)) (fnw (32 + 6 * jno + 2)) 0), (nw, iA G 1662 fnw), (nsh, iA G 4 fnsh), (nsf, iA G 4 fnsf), (nrc, iA G 30 fnrc)]) rfl (Nat.le_of_ble_eq_true rfl) rfl (by decide +kernel) (by decide +kernel) gX12_deal_10.2.2.2.2.2.2.2.2.1 (fun H locs hP hD hS => ?_)
        obtain ⟨jdl, hjdl, rfl⟩ := Wi_nat (N := 3) (by decide) a6651
        rcases (show jdl = 0 ∨ jdl = 1 ∨ jdl = 2 ∨ jdl = 3 by omega) with rfl | rfl | rfl | rfl
        · refine lv_aload_n hx hb gX12_deal_10.2.2.2.2.2.2.2.2.2 rfl (lv_at3 hl) ?_
          refine lv_iload_n hx hb gX12_deal_11.1 rfl (lv_at5 hl) ?_
          refine lv_iload_n hx hb gX12_deal_11.2.1 rfl (lv_at6 hl) ?_
          refine iV (wr := [(nw, iA G 1662 fnw), (nsh, iA G 4 fnsh), (nsf, iA G 4 fnsf)]) hC hK hl hP hD hS hA (m_dealt0 l G h0 x3 nw nk mhasKept nt mtaped nr mrowMany mroundOf mroundFrom mouts nm mfromHour mtoHour ns mfrom mto msort misFault mdeep mcoded mlines nl nc nF np ntr nb mbestCost nso nsi nit nsh nsf nss nrc 0 3 (nI jno) (fnw (32 + 6 * jno + 0)) (fnw (32 + 6 * jno + 2)) 0 fnrc (by omega) (by omega)) si_X12_372 [0, 4] [1, 2, 3] sm_0_4 fm_0_4 nd_0_4 sm_1_2_3 nd_1_2_3 dj_0_4__1_2_3 rfl rfl rfl rfl rfl (Nat.le_of_ble_eq_true rfl) rm_60_14_3 ⟨Nat.le_of_ble_eq_true rfl, Nat.le_of_ble_eq_true rfl⟩ gX12_deal_11.2.2.1 (fun r6731 => Ktu3 fun jr16733 ip16734 gtrc6735 => ?_)
          intro H locs hr6731 hP hD hS
          try dsimp only at hr6731
          refine Kpdr (ws := [(nw, iA G 1662 fnw), (nsh, iA G 4 fnsh), (nsf, iA G 4 fnsf), (h0, oX12 nw nk mhasKept nt mtaped nr mrowMany mroundOf mroundFrom mouts nm mfromHour mtoHour ns mfrom mto msort misFault mdeep mcoded mlines nl nc nF np ntr nb mbestCost nso nsi nit nsh nsf nss nrc (nI jr16733) 3 (nI jno) (fnw (32 + 6 * jno + 0)) (fnw (32 + 6 * jno + 2)) ip16734), (nrc, iA G 30 gtrc6735)]) hP hD (fun hP hD => ?_)
          obtain ⟨hr6731, w6736⟩ := hr6731
          refine lv_istore (lv' := [(7, .int r6731), (6, .int 0), (5, .int 1), (4, .int 3), (0, .ref h0), (1, .int (nI jt)), (2, .int 0), (3, .int x3)]) hx hb gX12_deal_11.2.2.2.1 hl (by decide) rfl (fun ls hl => ?_)
          refine lv_aload_n hx hb gX12_deal_11.2.2.2.2.1 rfl (lv_at4 hl) ?_
          refine gf_X12_380 hC rfl hK hP 3 rfl rfl gX12_deal_11.2.2.2.2.2.1 ?_
          refine lv_if_eq (tgt := 222) hx hb gX12_deal_11.2.2.2.2.2.2.1 (by decide) (fun c_214_6737 => ?_) (fun c_214_6737 => ?_)
          · refine lv_iload hx hb gX12_deal_11.2.2.2.2.2.2.2.2.2 (lv_at0 hl) ?_
            refine toQ hQ0 ?_
            exact RI (v := r6731) hC hP hD hS [3, 0, 1, 2, 4] (jr16733, 3, nI jno, fnw (32 + 6 * jno + 0), fnw (32 + 6 * jno + 2), ip16734, gtrc6735) rfl rfl (by decide) (⟨trivial, by omega⟩) rfl gX12_deal_12
          · refine lv_bipush (v := (-15)) hx hb gX12_deal_11.2.2.2.2.2.2.2.1 (by decide) ?_
            refine lv_goto (tgt := 224) hx hb gX12_deal_11.2.2.2.2.2.2.2.2.1 (by decide) ?_
            refine toQ hQ0 ?_
            exact RI (v := (-15)) hC hP hD hS [3, 0, 1, 2, 4] (jr16733, 3, nI jno, fnw (32 + 6 * jno + 0), fnw (32 + 6 * jno + 2), ip16734, gtrc6735) rfl rfl (by decide) (⟨trivial, by omega⟩) rfl gX12_deal_12
        · refine lv_aload_n hx hb gX12_deal_10.2.2.2.2.2.2.2.2.2 rfl (lv_at3 hl) ?_
          refine lv_iload_n hx hb gX12_deal_11.1 rfl (lv_at5 hl) ?_
          refine lv_iload_n hx hb gX12_deal_11.2.1 rfl (lv_at6 hl) ?_
          refine iV (wr := [(nw, iA G 1662 fnw), (nsh, iA G 4 fnsh), (nsf, iA G 4 fnsf)]) hC hK hl hP hD hS hA (m_dealt1 l G h0 x3 nw nk mhasKept nt mtaped nr mrowMany mroundOf mroundFrom mouts nm mfromHour mtoHour ns mfrom mto msort misFault mdeep mcoded mlines nl nc nF np ntr nb mbestCost nso nsi nit nsh nsf nss nrc 0 3 (nI jno) (fnw (32 + 6 * jno + 0)) (fnw (32 + 6 * jno + 2)) 0 fnrc (by omega) (by omega)) si_X12_372 [0, 4] [1, 2, 3] sm_0_4 fm_0_4 nd_0_4 sm_1_2_3 nd_1_2_3 dj_0_4__1_2_3 rfl rfl rfl rfl rfl (Nat.le_of_ble_eq_true rfl) rm_60_26_3 ⟨Nat.le_of_ble_eq_true rfl, Nat.le_of_ble_eq_true rfl⟩ gX12_deal_11.2.2.1 (fun r6738 => Ktu3 fun jr16740 ip16741 gtrc6742 => ?_)
          intro H locs hr6738 hP hD hS
          try dsimp only at hr6738
          refine Kpdr (ws := [(nw, iA G 1662 fnw), (nsh, iA G 4 fnsh), (nsf, iA G 4 fnsf), (h0, oX12 nw nk mhasKept nt mtaped nr mrowMany mroundOf mroundFrom mouts nm mfromHour mtoHour ns mfrom mto msort misFault mdeep mcoded mlines nl nc nF np ntr nb mbestCost nso nsi nit nsh nsf nss nrc (nI jr16740) 3 (nI jno) (fnw (32 + 6 * jno + 0)) (fnw (32 + 6 * jno + 2)) ip16741), (nrc, iA G 30 gtrc6742)]) hP hD (fun hP hD => ?_)
          obtain ⟨hr6738, w6743⟩ := hr6738
          refine lv_istore (lv' := [(7, .int r6738), (6, .int 0), (5, .int 1), (4, .int 3), (0, .ref h0), (1, .int (nI jt)), (2, .int 1), (3, .int x3)]) hx hb gX12_deal_11.2.2.2.1 hl (by decide) rfl (fun ls hl => ?_)
          refine lv_aload_n hx hb gX12_deal_11.2.2.2.2.1 rfl (lv_at4 hl) ?_
          refine gf_X12_380 hC rfl hK hP 3 rfl rfl gX12_deal_11.2.2.2.2.2.1 ?_
          refine lv_if_eq (tgt := 222) hx hb gX12_deal_11.2.2.2.2.2.2.1 (by decide) (fun c_214_6744 => ?_) (fun c_214_6744 => ?_)
          · refine lv_iload hx hb gX12_deal_11.2.2.2.2.2.2.2.2.2 (lv_at0 hl) ?_
            refine toQ hQ0 ?_
            exact RI (v := r6738) hC hP hD hS [3, 0, 1, 2, 4] (jr16740, 3, nI jno, fnw (32 + 6 * jno + 0), fnw (32 + 6 * jno + 2), ip16741, gtrc6742) rfl rfl (by decide) (⟨trivial, by omega⟩) rfl gX12_deal_12
          · refine lv_bipush (v := (-15)) hx hb gX12_deal_11.2.2.2.2.2.2.2.1 (by decide) ?_
            refine lv_goto (tgt := 224) hx hb gX12_deal_11.2.2.2.2.2.2.2.2.1 (by decide) ?_
            refine toQ hQ0 ?_
            exact RI (v := (-15)) hC hP hD hS [3, 0, 1, 2, 4] (jr16740, 3, nI jno, fnw (32 + 6 * jno + 0), fnw (32 + 6 * jno + 2), ip16741, gtrc6742) rfl rfl (by decide) (⟨trivial, by omega⟩) rfl gX12_deal_12
        · refine lv_aload_n hx hb gX12_deal_10.2.2.2.2.2.2.2.2.2 rfl (lv_at3 hl) ?_
          refine lv_iload_n hx hb gX12_deal_11.1 rfl (lv_at5 hl) ?_
          refine lv_iload_n hx hb gX12_deal_11.2.1 rfl (lv_at6 hl) ?_
          refine iV (wr := [(nw, iA G 1662 fnw), (nsh, iA G 4 fnsh), (nsf, iA G 4 fnsf)]) hC hK hl hP hD hS hA (m_dealt2 l G h0 x3 nw nk mhasKept nt mtaped nr mrowMany mroundOf mroundFrom mouts nm mfromHour mtoHour ns mfrom mto msort misFault mdeep mcoded mlines nl nc nF np ntr nb mbestCost nso nsi nit nsh nsf nss nrc 0 3 (nI jno) (fnw (32 + 6 * jno + 0)) (fnw (32 + 6 * jno + 2)) 0 fnrc (by omega) (by omega)) si_X12_372 [0, 4] [1, 2, 3] sm_0_4 fm_0_4 nd_0_4 sm_1_2_3 nd_1_2_3 dj_0_4__1_2_3 rfl rfl rfl rfl rfl (Nat.le_of_ble_eq_true rfl) rm_60_38_3 ⟨Nat.le_of_ble_eq_true rfl, Nat.le_of_ble_eq_true rfl⟩ gX12_deal_11.2.2.1 (fun r6745 => Ktu3 fun jr16747 ip16748 gtrc6749 => ?_)
          intro H locs hr6745 hP hD hS
          try dsimp only at hr6745
          refine Kpdr (ws := [(nw, iA G 1662 fnw), (nsh, iA G 4 fnsh), (nsf, iA G 4 fnsf), (h0, oX12 nw nk mhasKept nt mtaped nr mrowMany mroundOf mroundFrom mouts nm mfromHour mtoHour ns mfrom mto msort misFault mdeep mcoded mlines nl nc nF np ntr nb mbestCost nso nsi nit nsh nsf nss nrc (nI jr16747) 3 (nI jno) (fnw (32 + 6 * jno + 0)) (fnw (32 + 6 * jno + 2)) ip16748), (nrc, iA G 30 gtrc6749)]) hP hD (fun hP hD => ?_)
          obtain ⟨hr6745, w6750⟩ := hr6745
          refine lv_istore (lv' := [(7, .int r6745), (6, .int 0), (5, .int 1), (4, .int 3), (0, .ref h0), (1, .int (nI jt)), (2, .int 2), (3, .int x3)]) hx hb gX12_deal_11.2.2.2.1 hl (by decide) rfl (fun ls hl => ?_)
          refine lv_aload_n hx hb gX12_deal_11.2.2.2.2.1 rfl (lv_at4 hl) ?_
          refine gf_X12_380 hC rfl hK hP 3 rfl rfl gX12_deal_11.2.2.2.2.2.1 ?_
          refine lv_if_eq (tgt := 222) hx hb gX12_deal_11.2.2.2.2.2.2.1 (by decide) (fun c_214_6751 => ?_) (fun c_214_6751 => ?_)
          · refine lv_iload hx hb gX12_deal_11.2.2.2.2.2.2.2.2.2 (lv_at0 hl) ?_
            refine toQ hQ0 ?_
            exact RI (v := r6745) hC hP hD hS [3, 0, 1, 2, 4] (jr16747, 3, nI jno, fnw (32 + 6 * jno + 0), fnw (32 + 6 * jno + 2), ip16748, gtrc6749) rfl rfl (by decide) (⟨trivial, by omega⟩) rfl gX12_deal_12
          · refine lv_bipush (v := (-15)) hx hb gX12_deal_11.2.2.2.2.2.2.2.1 (by decide) ?_
            refine lv_goto (tgt := 224) hx hb gX12_deal_11.2.2.2.2.2.2.2.2.1 (by decide) ?_
            refine toQ hQ0 ?_
            exact RI (v := (-15)) hC hP hD hS [3, 0, 1, 2, 4] (jr16747, 3, nI jno, fnw (32 + 6 * jno + 0), fnw (32 + 6 * jno + 2), ip16748, gtrc6749) rfl rfl (by decide) (⟨trivial, by omega⟩) rfl gX12_deal_12
        · refine lv_aload_n hx hb gX12_deal_10.2.2.2.2.2.2.2.2.2 rfl (lv_at3 hl) ?_
          refine lv_iload_n hx hb gX12_deal_11.1 rfl (lv_at5 hl) ?_
          refine lv_iload_n hx hb gX12_deal_11.2.1 rfl (lv_at6 hl) ?_
          refine iV (wr := [(nw, iA G 1662 fnw), (nsh, iA G 4 fnsh), (nsf, iA G 4 fnsf)]) hC hK hl hP hD hS hA (m_dealt3 l G h0 x3 nw nk mhasKept nt mtaped nr mrowMany mroundOf mroundFrom mouts nm mfromHour mtoHour ns mfrom mto msort misFault mdeep mcoded mlines nl nc nF np ntr nb mbestCost nso nsi nit nsh nsf nss nrc 0 3 (nI jno) (fnw (32 + 6 * jno + 0)) (fnw (32 + 6 * jno + 2)) 0 fnrc (by omega) (by omega)) si_X12_372 [0, 4] [1, 2, 3] sm_0_4 fm_0_4 nd_0_4 sm_1_2_3 nd_1_2_3 dj_0_4__1_2_3 rfl rfl rfl rfl rfl (Nat.le_of_ble_eq_true rfl) rm_60_50_3 ⟨Nat.le_of_ble_eq_true rfl, Nat.le_of_ble_eq_true rfl⟩ gX12_deal_11.2.2.1 (fun r6752 => Ktu3 fun jr16754 ip16755 gtrc6756 => ?_)
          intro H locs hr6752 hP hD hS
          try dsimp only at hr6752
          refine Kpdr (ws := [(nw, iA G 1662 fnw), (nsh, iA G 4 fnsh), (nsf, iA G 4 fnsf), (h0, oX12 nw nk mhasKept nt mtaped nr mrowMany mroundOf mroundFrom mouts nm mfromHour mtoHour ns mfrom mto msort misFault mdeep mcoded mlines nl nc nF np ntr nb mbestCost nso nsi nit nsh nsf nss nrc (nI jr16754) 3 (nI jno) (fnw (32 + 6 * jno + 0)) (fnw (32 + 6 * jno + 2)) ip16755), (nrc, iA G 30 gtrc6756)]) hP hD (fun hP hD => ?_)
          obtain ⟨hr6752, w6757⟩ := hr6752
          refine lv_istore (lv' := [(7, .int r6752), (6, .int 0), (5, .int 1), (4, .int 3), (0, .ref h0), (1, .int (nI jt)), (2, .int 3), (3, .int x3)]) hx hb gX12_deal_11.2.2.2.1 hl (by decide) rfl (fun ls hl => ?_)
          refine lv_aload_n hx hb gX12_deal_11.2.2.2.2.1 rfl (lv_at4 hl) ?_
          refine gf_X12_380 hC rfl hK hP 3 rfl rfl gX12_deal_11.2.2.2.2.2.1 ?_
          refine lv_if_eq (tgt := 222) hx hb gX12_deal_11.2.2.2.2.2.2.1 (by decide) (fun c_214_6758 => ?_) (fun c_214_6758 => ?_)
          · refine lv_iload hx hb gX12_deal_11.2.2.2.2.2.2.2.2.2 (lv_at0 hl) ?_
            refine toQ hQ0 ?_
            exact RI (v := r6752) hC hP hD hS [3, 0, 1, 2, 4] (jr16754, 3, nI jno, fnw (32 + 6 * jno + 0), fnw (32 + 6 * jno + 2), ip16755, gtrc6756) rfl rfl (by decide) (⟨trivial, by omega⟩) rfl gX12_deal_12
          · refine lv_bipush (v := (-15)) hx hb gX12_deal_11.2.2.2.2.2.2.2.1 (by decide) ?_
            refine lv_goto (tgt := 224) hx hb gX12_deal_11.2.2.2.2.2.2.2.2.1 (by decide) ?_
            refine toQ hQ0 ?_
            exact RI (v := (-15)) hC hP hD hS [3, 0, 1, 2, 4] (jr16754, 3, nI jno, fnw (32 + 6 * jno + 0), fnw (32 + 6 * jno + 2), ip16755, gtrc6756) rfl rfl (by decide) (⟨trivial, by omega⟩) rfl gX12_deal_12
      · refine lv_istore (lv' := [(4, .int 4), (0, .ref h0), (1, .int (nI jt)), (2, .int x2), (3, .int x3)]) hx hb gX12_deal_1.2.2.2.2.1 hl (by decide) rfl (fun ls hl => ?_)
        refine lv_iload hx hb gX12_deal_1.2.2.2.2.2.1 (lv_at0 hl) ?_
        refine lv_if_ge (tgt := 37) hx hb gX12_deal_1.2.2.2.2.2.2.1 (by decide) (fun _ => ?_) (fun c9 => absurd (by decide) c9)
        refine lv_aload_n hx hb gX12_deal_1.2.2.2.2.2.2.2.2.2 rfl (lv_at1 hl) ?_
        refine lv_iload hx hb gX12_deal_2.1 (lv_at0 hl) ?_
        refine pf_X12_354 hC rfl hK hP hD hS 0 (ws' := [(h0, oX12 nw nk mhasKept nt mtaped nr mrowMany mroundOf mroundFrom mouts nm mfromHour mtoHour ns mfrom mto msort misFault mdeep mcoded mlines nl nc nF np ntr nb mbestCost nso nsi nit nsh nsf nss nrc 0 4 mnumber mwhose msize misParted), (nw, iA G 1662 fnw), (nsh, iA G 4 fnsh), (nsf, iA G 4 fnsf), (nrc, iA G 30 fnrc)]) rfl (Nat.le_of_ble_eq_true rfl) rfl rfl rfl gX12_deal_2.2.1 (fun H locs hP hD hS => ?_)
        refine lv_aload_n hx hb gX12_deal_2.2.2.1 rfl (lv_at1 hl) ?_
        refine lv_aload_n hx hb gX12_deal_2.2.2.2.1 rfl (lv_at1 hl) ?_
        refine gf_X12_75 hC rfl hK hP 0 rfl rfl gX12_deal_2.2.2.2.2.1 ?_
        refine lv_iload_n hx hb gX12_deal_2.2.2.2.2.2.1 rfl (lv_at2 hl) ?_
        refine aldN hC hK hP 3 rfl (k := jt) (by omega) (Nat.le_of_ble_eq_true rfl) (v := fnsf jt) rfl gX12_deal_2.2.2.2.2.2.2.1 ?_
        refine lv_topi (fun x6759 ex6759 => ?_)
        obtain ⟨hko9, jno, hjno, ejno⟩ := a6653
        refine eqi (x1 := nI jno) (ex6759.trans ejno) ?_
        refine pf_X12_378 hC rfl hK hP hD hS 0 (ws' := [(h0, oX12 nw nk mhasKept nt mtaped nr mrowMany mroundOf mroundFrom mouts nm mfromHour mtoHour ns mfrom mto msort misFault mdeep mcoded mlines nl nc nF np ntr nb mbestCost nso nsi nit nsh nsf nss nrc 0 4 (nI jno) mwhose msize misParted), (nw, iA G 1662 fnw), (nsh, iA G 4 fnsh), (nsf, iA G 4 fnsf), (nrc, iA G 30 fnrc)]) rfl (Nat.le_of_ble_eq_true rfl) rfl rfl rfl gX12_deal_2.2.2.2.2.2.2.2.1 (fun H locs hP hD hS => ?_)
        refine lv_aload_n hx hb gX12_deal_2.2.2.2.2.2.2.2.2.1 rfl (lv_at1 hl) ?_
        refine gf_X12_72 hC rfl hK hP 0 rfl rfl gX12_deal_2.2.2.2.2.2.2.2.2.2 ?_
        refine lv_iload_n hx hb gX12_deal_3.1 rfl (lv_at2 hl) ?_
        refine aldN hC hK hP 2 rfl (k := jt) (by omega) (Nat.le_of_ble_eq_true rfl) (v := fnsh jt) rfl gX12_deal_3.2.1 ?_
        refine lv_topi (fun x6760 ex6760 => ?_)
        refine lv_iconst (v := 1) hx hb gX12_deal_3.2.2.1 (by decide) ?_
        refine lv_icmp_ne (tgt := 67) hx hb gX12_deal_3.2.2.2.1 (by decide) (fun _ => ?_) (fun c9 => absurd c9 (fun h9 => absurd (hko9.symm.trans ((ex6760.symm).trans h9)) (by decide)))
        refine lv_iconst (v := 0) hx hb gX12_deal_3.2.2.2.2.2.2.1 (by decide) ?_
        refine lv_istore (lv' := [(5, .int 0), (4, .int 4), (0, .ref h0), (1, .int (nI jt)), (2, .int x2), (3, .int x3)]) hx hb gX12_deal_3.2.2.2.2.2.2.2.1 hl (by decide) rfl (fun ls hl => ?_)
        refine lv_aload_n hx hb gX12_deal_3.2.2.2.2.2.2.2.2.1 rfl (lv_at2 hl) ?_
        refine gf_X12_72 hC rfl hK hP 0 rfl rfl gX12_deal_3.2.2.2.2.2.2.2.2.2 ?_
        refine lv_iload_n hx hb gX12_deal_4.1 rfl (lv_at3 hl) ?_
        refine aldN hC hK hP 2 rfl (k := jt) (by omega) (Nat.le_of_ble_eq_true rfl) (v := fnsh jt) rfl gX12_deal_4.2.1 ?_
        refine lv_topi (fun x6761 ex6761 => ?_)
        refine lv_iconst (v := 2) hx hb gX12_deal_4.2.2.1 (by decide) ?_
        refine lv_icmp_ne (tgt := 84) hx hb gX12_deal_4.2.2.2.1 (by decide) (fun c9 => absurd (ex6761.trans hko9) c9) (fun _ => ?_)
        refine lv_iconst (v := 1) hx hb gX12_deal_4.2.2.2.2.1 (by decide) ?_
        refine lv_goto (tgt := 85) hx hb gX12_deal_4.2.2.2.2.2.1 (by decide) ?_
        refine lv_istore (lv' := [(6, .int 1), (5, .int 0), (4, .int 4), (0, .ref h0), (1, .int (nI jt)), (2, .int x2), (3, .int x3)]) hx hb gX12_deal_4.2.2.2.2.2.2.2.1 hl (by decide) rfl (fun ls hl => ?_)
        refine lv_aload_n hx hb gX12_deal_4.2.2.2.2.2.2.2.2.1 rfl (lv_at3 hl) ?_
        refine lv_iload hx hb gX12_deal_4.2.2.2.2.2.2.2.2.2 (lv_at1 hl) ?_
        refine lv_if_eq (tgt := 105) hx hb gX12_deal_5.1 (by decide) (fun _ => ?_) (fun c9 => absurd (by decide) c9)
        refine lv_iload hx hb gX12_deal_5.2.2.2.2.2.2.2.1 (lv_at0 hl) ?_
        refine lv_if_eq (tgt := 122) hx hb gX12_deal_5.2.2.2.2.2.2.2.2.1 (by decide) (fun c9 => absurd c9 (by decide)) (fun _ => ?_)
        refine lv_aload_n hx hb gX12_deal_5.2.2.2.2.2.2.2.2.2 rfl (lv_at3 hl) ?_
        refine lv_aload_n hx hb gX12_deal_6.1 rfl (lv_at3 hl) ?_
        refine gf_X12_378 hC rfl hK hP 0 rfl rfl gX12_deal_6.2.1 ?_
        refine lv_iconst (v := 0) hx hb gX12_deal_6.2.2.1 (by decide) ?_
        refine pV hC hK hl hP hD (m_saying l G h0 jno 0 nw nk mhasKept nt mtaped nr mrowMany mroundOf mroundFrom mouts nm mfromHour mtoHour ns mfrom mto msort misFault mdeep mcoded mlines nl nc nF np ntr nb mbestCost nso nsi nit nsh nsf nss nrc 0 4 (nI jno) mwhose msize misParted fnw (by omega) (by omega)) si_X12_114 [0, 1] sm_0_1 fm_0_1 nd_0_1 rfl rfl rfl rfl rfl (Nat.le_of_ble_eq_true rfl) rm_60_1_3 ⟨by first | exact Nat.le_of_ble_eq_true rfl | exact Nat.zero_le _, by first | exact Nat.le_of_ble_eq_true rfl | exact Nat.zero_le _⟩ gX12_deal_6.2.2.2.1 (Keqr ?_)
        refine lv_goto (tgt := 139) hx hb gX12_deal_6.2.2.2.2.1 (by decide) ?_
        refine pf_X12_375 hC rfl hK hP hD hS 0 (ws' := [(h0, oX12 nw nk mhasKept nt mtaped nr mrowMany mroundOf mroundFrom mouts nm mfromHour mtoHour ns mfrom mto msort misFault mdeep mcoded mlines nl nc nF np ntr nb mbestCost nso nsi nit nsh nsf nss nrc 0 4 (nI jno) (fnw (1424 + 8 * jno + 0)) msize misParted), (nw, iA G 1662 fnw), (nsh, iA G 4 fnsh), (nsf, iA G 4 fnsf), (nrc, iA G 30 fnrc)]) rfl (Nat.le_of_ble_eq_true rfl) rfl rfl rfl gX12_deal_7.2.2.2.2.2.2.1 (fun H locs hP hD hS => ?_)
        refine lv_aload_n hx hb gX12_deal_7.2.2.2.2.2.2.2.1 rfl (lv_at3 hl) ?_
        refine lv_iload hx hb gX12_deal_7.2.2.2.2.2.2.2.2.1 (lv_at1 hl) ?_
        refine lv_if_eq (tgt := 160) hx hb gX12_deal_7.2.2.2.2.2.2.2.2.2 (by decide) (fun _ => ?_) (fun c9 => absurd (by decide) c9)
        refine lv_iload hx hb gX12_deal_8.2.2.2.2.2.2.1 (lv_at0 hl) ?_
        refine lv_if_eq (tgt := 177) hx hb gX12_deal_8.2.2.2.2.2.2.2.1 (by decide) (fun c9 => absurd c9 (by decide)) (fun _ => ?_)
        refine lv_aload_n hx hb gX12_deal_8.2.2.2.2.2.2.2.2.1 rfl (lv_at3 hl) ?_
        refine lv_aload_n hx hb gX12_deal_8.2.2.2.2.2.2.2.2.2 rfl (lv_at3 hl) ?_
        refine gf_X12_378 hC rfl hK hP 0 rfl rfl gX12_deal_9.1 ?_
        refine lv_iconst (v := 4) hx hb gX12_deal_9.2.1 (by decide) ?_
        refine pV hC hK hl hP hD (m_saying l G h0 jno 4 nw nk mhasKept nt mtaped nr mrowMany mroundOf mroundFrom mouts nm mfromHour mtoHour ns mfrom mto msort misFault mdeep mcoded mlines nl nc nF np ntr nb mbestCost nso nsi nit nsh nsf nss nrc 0 4 (nI jno) (fnw (1424 + 8 * jno + 0)) msize misParted fnw (by omega) (by omega)) si_X12_114 [0, 1] sm_0_1 fm_0_1 nd_0_1 rfl rfl rfl rfl rfl (Nat.le_of_ble_eq_true rfl) rm_60_1_3 ⟨by first | exact Nat.le_of_ble_eq_true rfl | exact Nat.zero_le _, by first | exact Nat.le_of_ble_eq_true rfl | exact Nat.zero_le _⟩ gX12_deal_9.2.2.1 (Keqr ?_)
        refine lv_goto (tgt := 194) hx hb gX12_deal_9.2.2.2.1 (by decide) ?_
        refine pf_X12_369 hC rfl hK hP hD hS 0 (ws' := [(h0, oX12 nw nk mhasKept nt mtaped nr mrowMany mroundOf mroundFrom mouts nm mfromHour mtoHour ns mfrom mto msort misFault mdeep mcoded mlines nl nc nF np ntr nb mbestCost nso nsi nit nsh nsf nss nrc 0 4 (nI jno) (fnw (1424 + 8 * jno + 0)) (fnw (1424 + 8 * jno + 4)) misParted), (nw, iA G 1662 fnw), (nsh, iA G 4 fnsh), (nsf, iA G 4 fnsf), (nrc, iA G 30 fnrc)]) rfl (Nat.le_of_ble_eq_true rfl) rfl rfl rfl gX12_deal_10.2.2.2.2.2.1 (fun H locs hP hD hS => ?_)
        refine lv_aload_n hx hb gX12_deal_10.2.2.2.2.2.2.1 rfl (lv_at3 hl) ?_
        refine lv_iconst (v := 0) hx hb gX12_deal_10.2.2.2.2.2.2.2.1 (by decide) ?_
        refine pf_X12_380 hC rfl hK hP hD hS 0 (ws' := [(h0, oX12 nw nk mhasKept nt mtaped nr mrowMany mroundOf mroundFrom mouts nm mfromHour mtoHour ns mfrom mto msort misFault mdeep mcoded mlines nl nc nF np ntr nb mbestCost nso nsi nit nsh nsf nss nrc 0 4 (nI jno) (fnw (1424 + 8 * jno + 0)) (fnw (1424 + 8 * jno + 4)) 0), (nw, iA G 1662 fnw), (nsh, iA G 4 fnsh), (nsf, iA G 4 fnsf), (nrc, iA G 30 fnrc)]) rfl (Nat.le_of_ble_eq_true rfl) rfl (by decide +kernel) (by decide +kernel) gX12_deal_10.2.2.2.2.2.2.2.2.1 (fun H locs hP hD hS => ?_)
        obtain ⟨jdl, hjdl, rfl⟩ := Wi_nat (N := 3) (by decide) a6651
        rcases (show jdl = 0 ∨ jdl = 1 ∨ jdl = 2 ∨ jdl = 3 by omega) with rfl | rfl | rfl | rfl
        · refine lv_aload_n hx hb gX12_deal_10.2.2.2.2.2.2.2.2.2 rfl (lv_at3 hl) ?_
          refine lv_iload_n hx hb gX12_deal_11.1 rfl (lv_at5 hl) ?_
          refine lv_iload_n hx hb gX12_deal_11.2.1 rfl (lv_at6 hl) ?_
          refine iV (wr := [(nw, iA G 1662 fnw), (nsh, iA G 4 fnsh), (nsf, iA G 4 fnsf)]) hC hK hl hP hD hS hA (m_dealt0 l G h0 x3 nw nk mhasKept nt mtaped nr mrowMany mroundOf mroundFrom mouts nm mfromHour mtoHour ns mfrom mto msort misFault mdeep mcoded mlines nl nc nF np ntr nb mbestCost nso nsi nit nsh nsf nss nrc 0 4 (nI jno) (fnw (1424 + 8 * jno + 0)) (fnw (1424 + 8 * jno + 4)) 0 fnrc (by omega) (by omega)) si_X12_372 [0, 4] [1, 2, 3] sm_0_4 fm_0_4 nd_0_4 sm_1_2_3 nd_1_2_3 dj_0_4__1_2_3 rfl rfl rfl rfl rfl (Nat.le_of_ble_eq_true rfl) rm_60_14_3 ⟨Nat.le_of_ble_eq_true rfl, Nat.le_of_ble_eq_true rfl⟩ gX12_deal_11.2.2.1 (fun r6766 => Ktu3 fun jr16768 ip16769 gtrc6770 => ?_)
          intro H locs hr6766 hP hD hS
          try dsimp only at hr6766
          refine Kpdr (ws := [(nw, iA G 1662 fnw), (nsh, iA G 4 fnsh), (nsf, iA G 4 fnsf), (h0, oX12 nw nk mhasKept nt mtaped nr mrowMany mroundOf mroundFrom mouts nm mfromHour mtoHour ns mfrom mto msort misFault mdeep mcoded mlines nl nc nF np ntr nb mbestCost nso nsi nit nsh nsf nss nrc (nI jr16768) 4 (nI jno) (fnw (1424 + 8 * jno + 0)) (fnw (1424 + 8 * jno + 4)) ip16769), (nrc, iA G 30 gtrc6770)]) hP hD (fun hP hD => ?_)
          obtain ⟨hr6766, w6771⟩ := hr6766
          refine lv_istore (lv' := [(7, .int r6766), (6, .int 1), (5, .int 0), (4, .int 4), (0, .ref h0), (1, .int (nI jt)), (2, .int 0), (3, .int x3)]) hx hb gX12_deal_11.2.2.2.1 hl (by decide) rfl (fun ls hl => ?_)
          refine lv_aload_n hx hb gX12_deal_11.2.2.2.2.1 rfl (lv_at4 hl) ?_
          refine gf_X12_380 hC rfl hK hP 3 rfl rfl gX12_deal_11.2.2.2.2.2.1 ?_
          refine lv_if_eq (tgt := 222) hx hb gX12_deal_11.2.2.2.2.2.2.1 (by decide) (fun c_214_6772 => ?_) (fun c_214_6772 => ?_)
          · refine lv_iload hx hb gX12_deal_11.2.2.2.2.2.2.2.2.2 (lv_at0 hl) ?_
            refine toQ hQ0 ?_
            exact RI (v := r6766) hC hP hD hS [3, 0, 1, 2, 4] (jr16768, 4, nI jno, fnw (1424 + 8 * jno + 0), fnw (1424 + 8 * jno + 4), ip16769, gtrc6770) rfl rfl (by decide) (⟨trivial, by omega⟩) rfl gX12_deal_12
          · refine lv_bipush (v := (-15)) hx hb gX12_deal_11.2.2.2.2.2.2.2.1 (by decide) ?_
            refine lv_goto (tgt := 224) hx hb gX12_deal_11.2.2.2.2.2.2.2.2.1 (by decide) ?_
            refine toQ hQ0 ?_
            exact RI (v := (-15)) hC hP hD hS [3, 0, 1, 2, 4] (jr16768, 4, nI jno, fnw (1424 + 8 * jno + 0), fnw (1424 + 8 * jno + 4), ip16769, gtrc6770) rfl rfl (by decide) (⟨trivial, by omega⟩) rfl gX12_deal_12
        · refine lv_aload_n hx hb gX12_deal_10.2.2.2.2.2.2.2.2.2 rfl (lv_at3 hl) ?_
          refine lv_iload_n hx hb gX12_deal_11.1 rfl (lv_at5 hl) ?_
          refine lv_iload_n hx hb gX12_deal_11.2.1 rfl (lv_at6 hl) ?_
          refine iV (wr := [(nw, iA G 1662 fnw), (nsh, iA G 4 fnsh), (nsf, iA G 4 fnsf)]) hC hK hl hP hD hS hA (m_dealt1 l G h0 x3 nw nk mhasKept nt mtaped nr mrowMany mroundOf mroundFrom mouts nm mfromHour mtoHour ns mfrom mto msort misFault mdeep mcoded mlines nl nc nF np ntr nb mbestCost nso nsi nit nsh nsf nss nrc 0 4 (nI jno) (fnw (1424 + 8 * jno + 0)) (fnw (1424 + 8 * jno + 4)) 0 fnrc (by omega) (by omega)) si_X12_372 [0, 4] [1, 2, 3] sm_0_4 fm_0_4 nd_0_4 sm_1_2_3 nd_1_2_3 dj_0_4__1_2_3 rfl rfl rfl rfl rfl (Nat.le_of_ble_eq_true rfl) rm_60_26_3 ⟨Nat.le_of_ble_eq_true rfl, Nat.le_of_ble_eq_true rfl⟩ gX12_deal_11.2.2.1 (fun r6773 => Ktu3 fun jr16775 ip16776 gtrc6777 => ?_)
          intro H locs hr6773 hP hD hS
          try dsimp only at hr6773
          refine Kpdr (ws := [(nw, iA G 1662 fnw), (nsh, iA G 4 fnsh), (nsf, iA G 4 fnsf), (h0, oX12 nw nk mhasKept nt mtaped nr mrowMany mroundOf mroundFrom mouts nm mfromHour mtoHour ns mfrom mto msort misFault mdeep mcoded mlines nl nc nF np ntr nb mbestCost nso nsi nit nsh nsf nss nrc (nI jr16775) 4 (nI jno) (fnw (1424 + 8 * jno + 0)) (fnw (1424 + 8 * jno + 4)) ip16776), (nrc, iA G 30 gtrc6777)]) hP hD (fun hP hD => ?_)
          obtain ⟨hr6773, w6778⟩ := hr6773
          refine lv_istore (lv' := [(7, .int r6773), (6, .int 1), (5, .int 0), (4, .int 4), (0, .ref h0), (1, .int (nI jt)), (2, .int 1), (3, .int x3)]) hx hb gX12_deal_11.2.2.2.1 hl (by decide) rfl (fun ls hl => ?_)
          refine lv_aload_n hx hb gX12_deal_11.2.2.2.2.1 rfl (lv_at4 hl) ?_
          refine gf_X12_380 hC rfl hK hP 3 rfl rfl gX12_deal_11.2.2.2.2.2.1 ?_
          refine lv_if_eq (tgt := 222) hx hb gX12_deal_11.2.2.2.2.2.2.1 (by decide) (fun c_214_6779 => ?_) (fun c_214_6779 => ?_)
          · refine lv_iload hx hb gX12_deal_11.2.2.2.2.2.2.2.2.2 (lv_at0 hl) ?_
            refine toQ hQ0 ?_
            exact RI (v := r6773) hC hP hD hS [3, 0, 1, 2, 4] (jr16775, 4, nI jno, fnw (1424 + 8 * jno + 0), fnw (1424 + 8 * jno + 4), ip16776, gtrc6777) rfl rfl (by decide) (⟨trivial, by omega⟩) rfl gX12_deal_12
          · refine lv_bipush (v := (-15)) hx hb gX12_deal_11.2.2.2.2.2.2.2.1 (by decide) ?_
            refine lv_goto (tgt := 224) hx hb gX12_deal_11.2.2.2.2.2.2.2.2.1 (by decide) ?_
            refine toQ hQ0 ?_
            exact RI (v := (-15)) hC hP hD hS [3, 0, 1, 2, 4] (jr16775, 4, nI jno, fnw (1424 + 8 * jno + 0), fnw (1424 + 8 * jno + 4), ip16776, gtrc6777) rfl rfl (by decide) (⟨trivial, by omega⟩) rfl gX12_deal_12
        · refine lv_aload_n hx hb gX12_deal_10.2.2.2.2.2.2.2.2.2 rfl (lv_at3 hl) ?_
          refine lv_iload_n hx hb gX12_deal_11.1 rfl (lv_at5 hl) ?_
          refine lv_iload_n hx hb gX12_deal_11.2.1 rfl (lv_at6 hl) ?_
          refine iV (wr := [(nw, iA G 1662 fnw), (nsh, iA G 4 fnsh), (nsf, iA G 4 fnsf)]) hC hK hl hP hD hS hA (m_dealt2 l G h0 x3 nw nk mhasKept nt mtaped nr mrowMany mroundOf mroundFrom mouts nm mfromHour mtoHour ns mfrom mto msort misFault mdeep mcoded mlines nl nc nF np ntr nb mbestCost nso nsi nit nsh nsf nss nrc 0 4 (nI jno) (fnw (1424 + 8 * jno + 0)) (fnw (1424 + 8 * jno + 4)) 0 fnrc (by omega) (by omega)) si_X12_372 [0, 4] [1, 2, 3] sm_0_4 fm_0_4 nd_0_4 sm_1_2_3 nd_1_2_3 dj_0_4__1_2_3 rfl rfl rfl rfl rfl (Nat.le_of_ble_eq_true rfl) rm_60_38_3 ⟨Nat.le_of_ble_eq_true rfl, Nat.le_of_ble_eq_true rfl⟩ gX12_deal_11.2.2.1 (fun r6780 => Ktu3 fun jr16782 ip16783 gtrc6784 => ?_)
          intro H locs hr6780 hP hD hS
          try dsimp only at hr6780
          refine Kpdr (ws := [(nw, iA G 1662 fnw), (nsh, iA G 4 fnsh), (nsf, iA G 4 fnsf), (h0, oX12 nw nk mhasKept nt mtaped nr mrowMany mroundOf mroundFrom mouts nm mfromHour mtoHour ns mfrom mto msort misFault mdeep mcoded mlines nl nc nF np ntr nb mbestCost nso nsi nit nsh nsf nss nrc (nI jr16782) 4 (nI jno) (fnw (1424 + 8 * jno + 0)) (fnw (1424 + 8 * jno + 4)) ip16783), (nrc, iA G 30 gtrc6784)]) hP hD (fun hP hD => ?_)
          obtain ⟨hr6780, w6785⟩ := hr6780
          refine lv_istore (lv' := [(7, .int r6780), (6, .int 1), (5, .int 0), (4, .int 4), (0, .ref h0), (1, .int (nI jt)), (2, .int 2), (3, .int x3)]) hx hb gX12_deal_11.2.2.2.1 hl (by decide) rfl (fun ls hl => ?_)
          refine lv_aload_n hx hb gX12_deal_11.2.2.2.2.1 rfl (lv_at4 hl) ?_
          refine gf_X12_380 hC rfl hK hP 3 rfl rfl gX12_deal_11.2.2.2.2.2.1 ?_
          refine lv_if_eq (tgt := 222) hx hb gX12_deal_11.2.2.2.2.2.2.1 (by decide) (fun c_214_6786 => ?_) (fun c_214_6786 => ?_)
          · refine lv_iload hx hb gX12_deal_11.2.2.2.2.2.2.2.2.2 (lv_at0 hl) ?_
            refine toQ hQ0 ?_
            exact RI (v := r6780) hC hP hD hS [3, 0, 1, 2, 4] (jr16782, 4, nI jno, fnw (1424 + 8 * jno + 0), fnw (1424 + 8 * jno + 4), ip16783, gtrc6784) rfl rfl (by decide) (⟨trivial, by omega⟩) rfl gX12_deal_12
          · refine lv_bipush (v := (-15)) hx hb gX12_deal_11.2.2.2.2.2.2.2.1 (by decide) ?_
            refine lv_goto (tgt := 224) hx hb gX12_deal_11.2.2.2.2.2.2.2.2.1 (by decide) ?_
            refine toQ hQ0 ?_
            exact RI (v := (-15)) hC hP hD hS [3, 0, 1, 2, 4] (jr16782, 4, nI jno, fnw (1424 + 8 * jno + 0), fnw (1424 + 8 * jno + 4), ip16783, gtrc6784) rfl rfl (by decide) (⟨trivial, by omega⟩) rfl gX12_deal_12
        · refine lv_aload_n hx hb gX12_deal_10.2.2.2.2.2.2.2.2.2 rfl (lv_at3 hl) ?_
          refine lv_iload_n hx hb gX12_deal_11.1 rfl (lv_at5 hl) ?_
          refine lv_iload_n hx hb gX12_deal_11.2.1 rfl (lv_at6 hl) ?_
          refine iV (wr := [(nw, iA G 1662 fnw), (nsh, iA G 4 fnsh), (nsf, iA G 4 fnsf)]) hC hK hl hP hD hS hA (m_dealt3 l G h0 x3 nw nk mhasKept nt mtaped nr mrowMany mroundOf mroundFrom mouts nm mfromHour mtoHour ns mfrom mto msort misFault mdeep mcoded mlines nl nc nF np ntr nb mbestCost nso nsi nit nsh nsf nss nrc 0 4 (nI jno) (fnw (1424 + 8 * jno + 0)) (fnw (1424 + 8 * jno + 4)) 0 fnrc (by omega) (by omega)) si_X12_372 [0, 4] [1, 2, 3] sm_0_4 fm_0_4 nd_0_4 sm_1_2_3 nd_1_2_3 dj_0_4__1_2_3 rfl rfl rfl rfl rfl (Nat.le_of_ble_eq_true rfl) rm_60_50_3 ⟨Nat.le_of_ble_eq_true rfl, Nat.le_of_ble_eq_true rfl⟩ gX12_deal_11.2.2.1 (fun r6787 => Ktu3 fun jr16789 ip16790 gtrc6791 => ?_)
          intro H locs hr6787 hP hD hS
          try dsimp only at hr6787
          refine Kpdr (ws := [(nw, iA G 1662 fnw), (nsh, iA G 4 fnsh), (nsf, iA G 4 fnsf), (h0, oX12 nw nk mhasKept nt mtaped nr mrowMany mroundOf mroundFrom mouts nm mfromHour mtoHour ns mfrom mto msort misFault mdeep mcoded mlines nl nc nF np ntr nb mbestCost nso nsi nit nsh nsf nss nrc (nI jr16789) 4 (nI jno) (fnw (1424 + 8 * jno + 0)) (fnw (1424 + 8 * jno + 4)) ip16790), (nrc, iA G 30 gtrc6791)]) hP hD (fun hP hD => ?_)
          obtain ⟨hr6787, w6792⟩ := hr6787
          refine lv_istore (lv' := [(7, .int r6787), (6, .int 1), (5, .int 0), (4, .int 4), (0, .ref h0), (1, .int (nI jt)), (2, .int 3), (3, .int x3)]) hx hb gX12_deal_11.2.2.2.1 hl (by decide) rfl (fun ls hl => ?_)
          refine lv_aload_n hx hb gX12_deal_11.2.2.2.2.1 rfl (lv_at4 hl) ?_
          refine gf_X12_380 hC rfl hK hP 3 rfl rfl gX12_deal_11.2.2.2.2.2.1 ?_
          refine lv_if_eq (tgt := 222) hx hb gX12_deal_11.2.2.2.2.2.2.1 (by decide) (fun c_214_6793 => ?_) (fun c_214_6793 => ?_)
          · refine lv_iload hx hb gX12_deal_11.2.2.2.2.2.2.2.2.2 (lv_at0 hl) ?_
            refine toQ hQ0 ?_
            exact RI (v := r6787) hC hP hD hS [3, 0, 1, 2, 4] (jr16789, 4, nI jno, fnw (1424 + 8 * jno + 0), fnw (1424 + 8 * jno + 4), ip16790, gtrc6791) rfl rfl (by decide) (⟨trivial, by omega⟩) rfl gX12_deal_12
          · refine lv_bipush (v := (-15)) hx hb gX12_deal_11.2.2.2.2.2.2.2.1 (by decide) ?_
            refine lv_goto (tgt := 224) hx hb gX12_deal_11.2.2.2.2.2.2.2.2.1 (by decide) ?_
            refine toQ hQ0 ?_
            exact RI (v := (-15)) hC hP hD hS [3, 0, 1, 2, 4] (jr16789, 4, nI jno, fnw (1424 + 8 * jno + 0), fnw (1424 + 8 * jno + 4), ip16790, gtrc6791) rfl rfl (by decide) (⟨trivial, by omega⟩) rfl gX12_deal_12
      · refine lv_istore (lv' := [(4, .int 5), (0, .ref h0), (1, .int (nI jt)), (2, .int x2), (3, .int x3)]) hx hb gX12_deal_1.2.2.2.2.1 hl (by decide) rfl (fun ls hl => ?_)
        refine lv_iload hx hb gX12_deal_1.2.2.2.2.2.1 (lv_at0 hl) ?_
        refine lv_if_ge (tgt := 37) hx hb gX12_deal_1.2.2.2.2.2.2.1 (by decide) (fun _ => ?_) (fun c9 => absurd (by decide) c9)
        refine lv_aload_n hx hb gX12_deal_1.2.2.2.2.2.2.2.2.2 rfl (lv_at1 hl) ?_
        refine lv_iload hx hb gX12_deal_2.1 (lv_at0 hl) ?_
        refine pf_X12_354 hC rfl hK hP hD hS 0 (ws' := [(h0, oX12 nw nk mhasKept nt mtaped nr mrowMany mroundOf mroundFrom mouts nm mfromHour mtoHour ns mfrom mto msort misFault mdeep mcoded mlines nl nc nF np ntr nb mbestCost nso nsi nit nsh nsf nss nrc 0 5 mnumber mwhose msize misParted), (nw, iA G 1662 fnw), (nsh, iA G 4 fnsh), (nsf, iA G 4 fnsf), (nrc, iA G 30 fnrc)]) rfl (Nat.le_of_ble_eq_true rfl) rfl rfl rfl gX12_deal_2.2.1 (fun H locs hP hD hS => ?_)
        refine lv_aload_n hx hb gX12_deal_2.2.2.1 rfl (lv_at1 hl) ?_
        refine lv_aload_n hx hb gX12_deal_2.2.2.2.1 rfl (lv_at1 hl) ?_
        refine gf_X12_75 hC rfl hK hP 0 rfl rfl gX12_deal_2.2.2.2.2.1 ?_
        refine lv_iload_n hx hb gX12_deal_2.2.2.2.2.2.1 rfl (lv_at2 hl) ?_
        refine aldN hC hK hP 3 rfl (k := jt) (by omega) (Nat.le_of_ble_eq_true rfl) (v := fnsf jt) rfl gX12_deal_2.2.2.2.2.2.2.1 ?_
        refine lv_topi (fun x6794 ex6794 => ?_)
        obtain ⟨hko9, jno, hjno, ejno⟩ := a6653
        refine eqi (x1 := nI jno) (ex6794.trans ejno) ?_
        refine pf_X12_378 hC rfl hK hP hD hS 0 (ws' := [(h0, oX12 nw nk mhasKept nt mtaped nr mrowMany mroundOf mroundFrom mouts nm mfromHour mtoHour ns mfrom mto msort misFault mdeep mcoded mlines nl nc nF np ntr nb mbestCost nso nsi nit nsh nsf nss nrc 0 5 (nI jno) mwhose msize misParted), (nw, iA G 1662 fnw), (nsh, iA G 4 fnsh), (nsf, iA G 4 fnsf), (nrc, iA G 30 fnrc)]) rfl (Nat.le_of_ble_eq_true rfl) rfl rfl rfl gX12_deal_2.2.2.2.2.2.2.2.1 (fun H locs hP hD hS => ?_)
        refine lv_aload_n hx hb gX12_deal_2.2.2.2.2.2.2.2.2.1 rfl (lv_at1 hl) ?_
        refine gf_X12_72 hC rfl hK hP 0 rfl rfl gX12_deal_2.2.2.2.2.2.2.2.2.2 ?_
        refine lv_iload_n hx hb gX12_deal_3.1 rfl (lv_at2 hl) ?_
        refine aldN hC hK hP 2 rfl (k := jt) (by omega) (Nat.le_of_ble_eq_true rfl) (v := fnsh jt) rfl gX12_deal_3.2.1 ?_
        refine lv_topi (fun x6795 ex6795 => ?_)
        refine lv_iconst (v := 1) hx hb gX12_deal_3.2.2.1 (by decide) ?_
        refine lv_icmp_ne (tgt := 67) hx hb gX12_deal_3.2.2.2.1 (by decide) (fun _ => ?_) (fun c9 => absurd c9 (fun h9 => absurd (hko9.symm.trans ((ex6795.symm).trans h9)) (by decide)))
        refine lv_iconst (v := 0) hx hb gX12_deal_3.2.2.2.2.2.2.1 (by decide) ?_
        refine lv_istore (lv' := [(5, .int 0), (4, .int 5), (0, .ref h0), (1, .int (nI jt)), (2, .int x2), (3, .int x3)]) hx hb gX12_deal_3.2.2.2.2.2.2.2.1 hl (by decide) rfl (fun ls hl => ?_)
        refine lv_aload_n hx hb gX12_deal_3.2.2.2.2.2.2.2.2.1 rfl (lv_at2 hl) ?_
        refine gf_X12_72 hC rfl hK hP 0 rfl rfl gX12_deal_3.2.2.2.2.2.2.2.2.2 ?_
        refine lv_iload_n hx hb gX12_deal_4.1 rfl (lv_at3 hl) ?_
        refine aldN hC hK hP 2 rfl (k := jt) (by omega) (Nat.le_of_ble_eq_true rfl) (v := fnsh jt) rfl gX12_deal_4.2.1 ?_
        refine lv_topi (fun x6796 ex6796 => ?_)
        refine lv_iconst (v := 2) hx hb gX12_deal_4.2.2.1 (by decide) ?_
        refine lv_icmp_ne (tgt := 84) hx hb gX12_deal_4.2.2.2.1 (by decide) (fun c9 => absurd (ex6796.trans hko9) c9) (fun _ => ?_)
        refine lv_iconst (v := 1) hx hb gX12_deal_4.2.2.2.2.1 (by decide) ?_
        refine lv_goto (tgt := 85) hx hb gX12_deal_4.2.2.2.2.2.1 (by decide) ?_
        refine lv_istore (lv' := [(6, .int 1), (5, .int 0), (4, .int 5), (0, .ref h0), (1, .int (nI jt)), (2, .int x2), (3, .int x3)]) hx hb gX12_deal_4.2.2.2.2.2.2.2.1 hl (by decide) rfl (fun ls hl => ?_)
        refine lv_aload_n hx hb gX12_deal_4.2.2.2.2.2.2.2.2.1 rfl (lv_at3 hl) ?_
        refine lv_iload hx hb gX12_deal_4.2.2.2.2.2.2.2.2.2 (lv_at1 hl) ?_
        refine lv_if_eq (tgt := 105) hx hb gX12_deal_5.1 (by decide) (fun _ => ?_) (fun c9 => absurd (by decide) c9)
        refine lv_iload hx hb gX12_deal_5.2.2.2.2.2.2.2.1 (lv_at0 hl) ?_
        refine lv_if_eq (tgt := 122) hx hb gX12_deal_5.2.2.2.2.2.2.2.2.1 (by decide) (fun c9 => absurd c9 (by decide)) (fun _ => ?_)
        refine lv_aload_n hx hb gX12_deal_5.2.2.2.2.2.2.2.2.2 rfl (lv_at3 hl) ?_
        refine lv_aload_n hx hb gX12_deal_6.1 rfl (lv_at3 hl) ?_
        refine gf_X12_378 hC rfl hK hP 0 rfl rfl gX12_deal_6.2.1 ?_
        refine lv_iconst (v := 0) hx hb gX12_deal_6.2.2.1 (by decide) ?_
        refine pV hC hK hl hP hD (m_saying l G h0 jno 0 nw nk mhasKept nt mtaped nr mrowMany mroundOf mroundFrom mouts nm mfromHour mtoHour ns mfrom mto msort misFault mdeep mcoded mlines nl nc nF np ntr nb mbestCost nso nsi nit nsh nsf nss nrc 0 5 (nI jno) mwhose msize misParted fnw (by omega) (by omega)) si_X12_114 [0, 1] sm_0_1 fm_0_1 nd_0_1 rfl rfl rfl rfl rfl (Nat.le_of_ble_eq_true rfl) rm_60_1_3 ⟨by first | exact Nat.le_of_ble_eq_true rfl | exact Nat.zero_le _, by first | exact Nat.le_of_ble_eq_true rfl | exact Nat.zero_le _⟩ gX12_deal_6.2.2.2.1 (Keqr ?_)
        refine lv_goto (tgt := 139) hx hb gX12_deal_6.2.2.2.2.1 (by decide) ?_
        refine pf_X12_375 hC rfl hK hP hD hS 0 (ws' := [(h0, oX12 nw nk mhasKept nt mtaped nr mrowMany mroundOf mroundFrom mouts nm mfromHour mtoHour ns mfrom mto msort misFault mdeep mcoded mlines nl nc nF np ntr nb mbestCost nso nsi nit nsh nsf nss nrc 0 5 (nI jno) (fnw (1424 + 8 * jno + 0)) msize misParted), (nw, iA G 1662 fnw), (nsh, iA G 4 fnsh), (nsf, iA G 4 fnsf), (nrc, iA G 30 fnrc)]) rfl (Nat.le_of_ble_eq_true rfl) rfl rfl rfl gX12_deal_7.2.2.2.2.2.2.1 (fun H locs hP hD hS => ?_)
        refine lv_aload_n hx hb gX12_deal_7.2.2.2.2.2.2.2.1 rfl (lv_at3 hl) ?_
        refine lv_iload hx hb gX12_deal_7.2.2.2.2.2.2.2.2.1 (lv_at1 hl) ?_
        refine lv_if_eq (tgt := 160) hx hb gX12_deal_7.2.2.2.2.2.2.2.2.2 (by decide) (fun _ => ?_) (fun c9 => absurd (by decide) c9)
        refine lv_iload hx hb gX12_deal_8.2.2.2.2.2.2.1 (lv_at0 hl) ?_
        refine lv_if_eq (tgt := 177) hx hb gX12_deal_8.2.2.2.2.2.2.2.1 (by decide) (fun c9 => absurd c9 (by decide)) (fun _ => ?_)
        refine lv_aload_n hx hb gX12_deal_8.2.2.2.2.2.2.2.2.1 rfl (lv_at3 hl) ?_
        refine lv_aload_n hx hb gX12_deal_8.2.2.2.2.2.2.2.2.2 rfl (lv_at3 hl) ?_
        refine gf_X12_378 hC rfl hK hP 0 rfl rfl gX12_deal_9.1 ?_
        refine lv_iconst (v := 4) hx hb gX12_deal_9.2.1 (by decide) ?_
        refine pV hC hK hl hP hD (m_saying l G h0 jno 4 nw nk mhasKept nt mtaped nr mrowMany mroundOf mroundFrom mouts nm mfromHour mtoHour ns mfrom mto msort misFault mdeep mcoded mlines nl nc nF np ntr nb mbestCost nso nsi nit nsh nsf nss nrc 0 5 (nI jno) (fnw (1424 + 8 * jno + 0)) msize misParted fnw (by omega) (by omega)) si_X12_114 [0, 1] sm_0_1 fm_0_1 nd_0_1 rfl rfl rfl rfl rfl (Nat.le_of_ble_eq_true rfl) rm_60_1_3 ⟨by first | exact Nat.le_of_ble_eq_true rfl | exact Nat.zero_le _, by first | exact Nat.le_of_ble_eq_true rfl | exact Nat.zero_le _⟩ gX12_deal_9.2.2.1 (Keqr ?_)
        refine lv_goto (tgt := 194) hx hb gX12_deal_9.2.2.2.1 (by decide) ?_
        refine pf_X12_369 hC rfl hK hP hD hS 0 (ws' := [(h0, oX12 nw nk mhasKept nt mtaped nr mrowMany mroundOf mroundFrom mouts nm mfromHour mtoHour ns mfrom mto msort misFault mdeep mcoded mlines nl nc nF np ntr nb mbestCost nso nsi nit nsh nsf nss nrc 0 5 (nI jno) (fnw (1424 + 8 * jno + 0)) (fnw (1424 + 8 * jno + 4)) misParted), (nw, iA G 1662 fnw), (nsh, iA G 4 fnsh), (nsf, iA G 4 fnsf), (nrc, iA G 30 fnrc)]) rfl (Nat.le_of_ble_eq_true rfl) rfl rfl rfl gX12_deal_10.2.2.2.2.2.1 (fun H locs hP hD hS => ?_)
        refine lv_aload_n hx hb gX12_deal_10.2.2.2.2.2.2.1 rfl (lv_at3 hl) ?_
        refine lv_iconst (v := 0) hx hb gX12_deal_10.2.2.2.2.2.2.2.1 (by decide) ?_
        refine pf_X12_380 hC rfl hK hP hD hS 0 (ws' := [(h0, oX12 nw nk mhasKept nt mtaped nr mrowMany mroundOf mroundFrom mouts nm mfromHour mtoHour ns mfrom mto msort misFault mdeep mcoded mlines nl nc nF np ntr nb mbestCost nso nsi nit nsh nsf nss nrc 0 5 (nI jno) (fnw (1424 + 8 * jno + 0)) (fnw (1424 + 8 * jno + 4)) 0), (nw, iA G 1662 fnw), (nsh, iA G 4 fnsh), (nsf, iA G 4 fnsf), (nrc, iA G 30 fnrc)]) rfl (Nat.le_of_ble_eq_true rfl) rfl (by decide +kernel) (by decide +kernel) gX12_deal_10.2.2.2.2.2.2.2.2.1 (fun H locs hP hD hS => ?_)
        obtain ⟨jdl, hjdl, rfl⟩ := Wi_nat (N := 3) (by decide) a6651
        rcases (show jdl = 0 ∨ jdl = 1 ∨ jdl = 2 ∨ jdl = 3 by omega) with rfl | rfl | rfl | rfl
        · refine lv_aload_n hx hb gX12_deal_10.2.2.2.2.2.2.2.2.2 rfl (lv_at3 hl) ?_
          refine lv_iload_n hx hb gX12_deal_11.1 rfl (lv_at5 hl) ?_
          refine lv_iload_n hx hb gX12_deal_11.2.1 rfl (lv_at6 hl) ?_
          refine iV (wr := [(nw, iA G 1662 fnw), (nsh, iA G 4 fnsh), (nsf, iA G 4 fnsf)]) hC hK hl hP hD hS hA (m_dealt0 l G h0 x3 nw nk mhasKept nt mtaped nr mrowMany mroundOf mroundFrom mouts nm mfromHour mtoHour ns mfrom mto msort misFault mdeep mcoded mlines nl nc nF np ntr nb mbestCost nso nsi nit nsh nsf nss nrc 0 5 (nI jno) (fnw (1424 + 8 * jno + 0)) (fnw (1424 + 8 * jno + 4)) 0 fnrc (by omega) (by omega)) si_X12_372 [0, 4] [1, 2, 3] sm_0_4 fm_0_4 nd_0_4 sm_1_2_3 nd_1_2_3 dj_0_4__1_2_3 rfl rfl rfl rfl rfl (Nat.le_of_ble_eq_true rfl) rm_60_14_3 ⟨Nat.le_of_ble_eq_true rfl, Nat.le_of_ble_eq_true rfl⟩ gX12_deal_11.2.2.1 (fun r6801 => Ktu3 fun jr16803 ip16804 gtrc6805 => ?_)
          intro H locs hr6801 hP hD hS
          try dsimp only at hr6801
          refine Kpdr (ws := [(nw, iA G 1662 fnw), (nsh, iA G 4 fnsh), (nsf, iA G 4 fnsf), (h0, oX12 nw nk mhasKept nt mtaped nr mrowMany mroundOf mroundFrom mouts nm mfromHour mtoHour ns mfrom mto msort misFault mdeep mcoded mlines nl nc nF np ntr nb mbestCost nso nsi nit nsh nsf nss nrc (nI jr16803) 5 (nI jno) (fnw (1424 + 8 * jno + 0)) (fnw (1424 + 8 * jno + 4)) ip16804), (nrc, iA G 30 gtrc6805)]) hP hD (fun hP hD => ?_)
          obtain ⟨hr6801, w6806⟩ := hr6801
          refine lv_istore (lv' := [(7, .int r6801), (6, .int 1), (5, .int 0), (4, .int 5), (0, .ref h0), (1, .int (nI jt)), (2, .int 0), (3, .int x3)]) hx hb gX12_deal_11.2.2.2.1 hl (by decide) rfl (fun ls hl => ?_)
          refine lv_aload_n hx hb gX12_deal_11.2.2.2.2.1 rfl (lv_at4 hl) ?_
          refine gf_X12_380 hC rfl hK hP 3 rfl rfl gX12_deal_11.2.2.2.2.2.1 ?_
          refine lv_if_eq (tgt := 222) hx hb gX12_deal_11.2.2.2.2.2.2.1 (by decide) (fun c_214_6807 => ?_) (fun c_214_6807 => ?_)
          · refine lv_iload hx hb gX12_deal_11.2.2.2.2.2.2.2.2.2 (lv_at0 hl) ?_
            refine toQ hQ0 ?_
            exact RI (v := r6801) hC hP hD hS [3, 0, 1, 2, 4] (jr16803, 5, nI jno, fnw (1424 + 8 * jno + 0), fnw (1424 + 8 * jno + 4), ip16804, gtrc6805) rfl rfl (by decide) (⟨trivial, by omega⟩) rfl gX12_deal_12
          · refine lv_bipush (v := (-15)) hx hb gX12_deal_11.2.2.2.2.2.2.2.1 (by decide) ?_
            refine lv_goto (tgt := 224) hx hb gX12_deal_11.2.2.2.2.2.2.2.2.1 (by decide) ?_
            refine toQ hQ0 ?_
            exact RI (v := (-15)) hC hP hD hS [3, 0, 1, 2, 4] (jr16803, 5, nI jno, fnw (1424 + 8 * jno + 0), fnw (1424 + 8 * jno + 4), ip16804, gtrc6805) rfl rfl (by decide) (⟨trivial, by omega⟩) rfl gX12_deal_12
        · refine lv_aload_n hx hb gX12_deal_10.2.2.2.2.2.2.2.2.2 rfl (lv_at3 hl) ?_
          refine lv_iload_n hx hb gX12_deal_11.1 rfl (lv_at5 hl) ?_
          refine lv_iload_n hx hb gX12_deal_11.2.1 rfl (lv_at6 hl) ?_
          refine iV (wr := [(nw, iA G 1662 fnw), (nsh, iA G 4 fnsh), (nsf, iA G 4 fnsf)]) hC hK hl hP hD hS hA (m_dealt1 l G h0 x3 nw nk mhasKept nt mtaped nr mrowMany mroundOf mroundFrom mouts nm mfromHour mtoHour ns mfrom mto msort misFault mdeep mcoded mlines nl nc nF np ntr nb mbestCost nso nsi nit nsh nsf nss nrc 0 5 (nI jno) (fnw (1424 + 8 * jno + 0)) (fnw (1424 + 8 * jno + 4)) 0 fnrc (by omega) (by omega)) si_X12_372 [0, 4] [1, 2, 3] sm_0_4 fm_0_4 nd_0_4 sm_1_2_3 nd_1_2_3 dj_0_4__1_2_3 rfl rfl rfl rfl rfl (Nat.le_of_ble_eq_true rfl) rm_60_26_3 ⟨Nat.le_of_ble_eq_true rfl, Nat.le_of_ble_eq_true rfl⟩ gX12_deal_11.2.2.1 (fun r6808 => Ktu3 fun jr16810 ip16811 gtrc6812 => ?_)
          intro H locs hr6808 hP hD hS
          try dsimp only at hr6808
          refine Kpdr (ws := [(nw, iA G 1662 fnw), (nsh, iA G 4 fnsh), (nsf, iA G 4 fnsf), (h0, oX12 nw nk mhasKept nt mtaped nr mrowMany mroundOf mroundFrom mouts nm mfromHour mtoHour ns mfrom mto msort misFault mdeep mcoded mlines nl nc nF np ntr nb mbestCost nso nsi nit nsh nsf nss nrc (nI jr16810) 5 (nI jno) (fnw (1424 + 8 * jno + 0)) (fnw (1424 + 8 * jno + 4)) ip16811), (nrc, iA G 30 gtrc6812)]) hP hD (fun hP hD => ?_)
          obtain ⟨hr6808, w6813⟩ := hr6808
          refine lv_istore (lv' := [(7, .int r6808), (6, .int 1), (5, .int 0), (4, .int 5), (0, .ref h0), (1, .int (nI jt)), (2, .int 1), (3, .int x3)]) hx hb gX12_deal_11.2.2.2.1 hl (by decide) rfl (fun ls hl => ?_)
          refine lv_aload_n hx hb gX12_deal_11.2.2.2.2.1 rfl (lv_at4 hl) ?_
          refine gf_X12_380 hC rfl hK hP 3 rfl rfl gX12_deal_11.2.2.2.2.2.1 ?_
          refine lv_if_eq (tgt := 222) hx hb gX12_deal_11.2.2.2.2.2.2.1 (by decide) (fun c_214_6814 => ?_) (fun c_214_6814 => ?_)
          · refine lv_iload hx hb gX12_deal_11.2.2.2.2.2.2.2.2.2 (lv_at0 hl) ?_
            refine toQ hQ0 ?_
            exact RI (v := r6808) hC hP hD hS [3, 0, 1, 2, 4] (jr16810, 5, nI jno, fnw (1424 + 8 * jno + 0), fnw (1424 + 8 * jno + 4), ip16811, gtrc6812) rfl rfl (by decide) (⟨trivial, by omega⟩) rfl gX12_deal_12
          · refine lv_bipush (v := (-15)) hx hb gX12_deal_11.2.2.2.2.2.2.2.1 (by decide) ?_
            refine lv_goto (tgt := 224) hx hb gX12_deal_11.2.2.2.2.2.2.2.2.1 (by decide) ?_
            refine toQ hQ0 ?_
            exact RI (v := (-15)) hC hP hD hS [3, 0, 1, 2, 4] (jr16810, 5, nI jno, fnw (1424 + 8 * jno + 0), fnw (1424 + 8 * jno + 4), ip16811, gtrc6812) rfl rfl (by decide) (⟨trivial, by omega⟩) rfl gX12_deal_12
        · refine lv_aload_n hx hb gX12_deal_10.2.2.2.2.2.2.2.2.2 rfl (lv_at3 hl) ?_
          refine lv_iload_n hx hb gX12_deal_11.1 rfl (lv_at5 hl) ?_
          refine lv_iload_n hx hb gX12_deal_11.2.1 rfl (lv_at6 hl) ?_
          refine iV (wr := [(nw, iA G 1662 fnw), (nsh, iA G 4 fnsh), (nsf, iA G 4 fnsf)]) hC hK hl hP hD hS hA (m_dealt2 l G h0 x3 nw nk mhasKept nt mtaped nr mrowMany mroundOf mroundFrom mouts nm mfromHour mtoHour ns mfrom mto msort misFault mdeep mcoded mlines nl nc nF np ntr nb mbestCost nso nsi nit nsh nsf nss nrc 0 5 (nI jno) (fnw (1424 + 8 * jno + 0)) (fnw (1424 + 8 * jno + 4)) 0 fnrc (by omega) (by omega)) si_X12_372 [0, 4] [1, 2, 3] sm_0_4 fm_0_4 nd_0_4 sm_1_2_3 nd_1_2_3 dj_0_4__1_2_3 rfl rfl rfl rfl rfl (Nat.le_of_ble_eq_true rfl) rm_60_38_3 ⟨Nat.le_of_ble_eq_true rfl, Nat.le_of_ble_eq_true rfl⟩ gX12_deal_11.2.2.1 (fun r6815 => Ktu3 fun jr16817 ip16818 gtrc6819 => ?_)
          intro H locs hr6815 hP hD hS
          try dsimp only at hr6815
          refine Kpdr (ws := [(nw, iA G 1662 fnw), (nsh, iA G 4 fnsh), (nsf, iA G 4 fnsf), (h0, oX12 nw nk mhasKept nt mtaped nr mrowMany mroundOf mroundFrom mouts nm mfromHour mtoHour ns mfrom mto msort misFault mdeep mcoded mlines nl nc nF np ntr nb mbestCost nso nsi nit nsh nsf nss nrc (nI jr16817) 5 (nI jno) (fnw (1424 + 8 * jno + 0)) (fnw (1424 + 8 * jno + 4)) ip16818), (nrc, iA G 30 gtrc6819)]) hP hD (fun hP hD => ?_)
          obtain ⟨hr6815, w6820⟩ := hr6815
          refine lv_istore (lv' := [(7, .int r6815), (6, .int 1), (5, .int 0), (4, .int 5), (0, .ref h0), (1, .int (nI jt)), (2, .int 2), (3, .int x3)]) hx hb gX12_deal_11.2.2.2.1 hl (by decide) rfl (fun ls hl => ?_)
          refine lv_aload_n hx hb gX12_deal_11.2.2.2.2.1 rfl (lv_at4 hl) ?_
          refine gf_X12_380 hC rfl hK hP 3 rfl rfl gX12_deal_11.2.2.2.2.2.1 ?_
          refine lv_if_eq (tgt := 222) hx hb gX12_deal_11.2.2.2.2.2.2.1 (by decide) (fun c_214_6821 => ?_) (fun c_214_6821 => ?_)
          · refine lv_iload hx hb gX12_deal_11.2.2.2.2.2.2.2.2.2 (lv_at0 hl) ?_
            refine toQ hQ0 ?_
            exact RI (v := r6815) hC hP hD hS [3, 0, 1, 2, 4] (jr16817, 5, nI jno, fnw (1424 + 8 * jno + 0), fnw (1424 + 8 * jno + 4), ip16818, gtrc6819) rfl rfl (by decide) (⟨trivial, by omega⟩) rfl gX12_deal_12
          · refine lv_bipush (v := (-15)) hx hb gX12_deal_11.2.2.2.2.2.2.2.1 (by decide) ?_
            refine lv_goto (tgt := 224) hx hb gX12_deal_11.2.2.2.2.2.2.2.2.1 (by decide) ?_
            refine toQ hQ0 ?_
            exact RI (v := (-15)) hC hP hD hS [3, 0, 1, 2, 4] (jr16817, 5, nI jno, fnw (1424 + 8 * jno + 0), fnw (1424 + 8 * jno + 4), ip16818, gtrc6819) rfl rfl (by decide) (⟨trivial, by omega⟩) rfl gX12_deal_12
        · refine lv_aload_n hx hb gX12_deal_10.2.2.2.2.2.2.2.2.2 rfl (lv_at3 hl) ?_
          refine lv_iload_n hx hb gX12_deal_11.1 rfl (lv_at5 hl) ?_
          refine lv_iload_n hx hb gX12_deal_11.2.1 rfl (lv_at6 hl) ?_
          refine iV (wr := [(nw, iA G 1662 fnw), (nsh, iA G 4 fnsh), (nsf, iA G 4 fnsf)]) hC hK hl hP hD hS hA (m_dealt3 l G h0 x3 nw nk mhasKept nt mtaped nr mrowMany mroundOf mroundFrom mouts nm mfromHour mtoHour ns mfrom mto msort misFault mdeep mcoded mlines nl nc nF np ntr nb mbestCost nso nsi nit nsh nsf nss nrc 0 5 (nI jno) (fnw (1424 + 8 * jno + 0)) (fnw (1424 + 8 * jno + 4)) 0 fnrc (by omega) (by omega)) si_X12_372 [0, 4] [1, 2, 3] sm_0_4 fm_0_4 nd_0_4 sm_1_2_3 nd_1_2_3 dj_0_4__1_2_3 rfl rfl rfl rfl rfl (Nat.le_of_ble_eq_true rfl) rm_60_50_3 ⟨Nat.le_of_ble_eq_true rfl, Nat.le_of_ble_eq_true rfl⟩ gX12_deal_11.2.2.1 (fun r6822 => Ktu3 fun jr16824 ip16825 gtrc6826 => ?_)
          intro H locs hr6822 hP hD hS
          try dsimp only at hr6822
          refine Kpdr (ws := [(nw, iA G 1662 fnw), (nsh, iA G 4 fnsh), (nsf, iA G 4 fnsf), (h0, oX12 nw nk mhasKept nt mtaped nr mrowMany mroundOf mroundFrom mouts nm mfromHour mtoHour ns mfrom mto msort misFault mdeep mcoded mlines nl nc nF np ntr nb mbestCost nso nsi nit nsh nsf nss nrc (nI jr16824) 5 (nI jno) (fnw (1424 + 8 * jno + 0)) (fnw (1424 + 8 * jno + 4)) ip16825), (nrc, iA G 30 gtrc6826)]) hP hD (fun hP hD => ?_)
          obtain ⟨hr6822, w6827⟩ := hr6822
          refine lv_istore (lv' := [(7, .int r6822), (6, .int 1), (5, .int 0), (4, .int 5), (0, .ref h0), (1, .int (nI jt)), (2, .int 3), (3, .int x3)]) hx hb gX12_deal_11.2.2.2.1 hl (by decide) rfl (fun ls hl => ?_)
          refine lv_aload_n hx hb gX12_deal_11.2.2.2.2.1 rfl (lv_at4 hl) ?_
          refine gf_X12_380 hC rfl hK hP 3 rfl rfl gX12_deal_11.2.2.2.2.2.1 ?_
          refine lv_if_eq (tgt := 222) hx hb gX12_deal_11.2.2.2.2.2.2.1 (by decide) (fun c_214_6828 => ?_) (fun c_214_6828 => ?_)
          · refine lv_iload hx hb gX12_deal_11.2.2.2.2.2.2.2.2.2 (lv_at0 hl) ?_
            refine toQ hQ0 ?_
            exact RI (v := r6822) hC hP hD hS [3, 0, 1, 2, 4] (jr16824, 5, nI jno, fnw (1424 + 8 * jno + 0), fnw (1424 + 8 * jno + 4), ip16825, gtrc6826) rfl rfl (by decide) (⟨trivial, by omega⟩) rfl gX12_deal_12
          · refine lv_bipush (v := (-15)) hx hb gX12_deal_11.2.2.2.2.2.2.2.1 (by decide) ?_
            refine lv_goto (tgt := 224) hx hb gX12_deal_11.2.2.2.2.2.2.2.2.1 (by decide) ?_
            refine toQ hQ0 ?_
            exact RI (v := (-15)) hC hP hD hS [3, 0, 1, 2, 4] (jr16824, 5, nI jno, fnw (1424 + 8 * jno + 0), fnw (1424 + 8 * jno + 4), ip16825, gtrc6826) rfl rfl (by decide) (⟨trivial, by omega⟩) rfl gX12_deal_12
      · refine lv_istore (lv' := [(4, .int 6), (0, .ref h0), (1, .int (nI jt)), (2, .int x2), (3, .int x3)]) hx hb gX12_deal_1.2.2.2.2.1 hl (by decide) rfl (fun ls hl => ?_)
        refine lv_iload hx hb gX12_deal_1.2.2.2.2.2.1 (lv_at0 hl) ?_
        refine lv_if_ge (tgt := 37) hx hb gX12_deal_1.2.2.2.2.2.2.1 (by decide) (fun _ => ?_) (fun c9 => absurd (by decide) c9)
        refine lv_aload_n hx hb gX12_deal_1.2.2.2.2.2.2.2.2.2 rfl (lv_at1 hl) ?_
        refine lv_iload hx hb gX12_deal_2.1 (lv_at0 hl) ?_
        refine pf_X12_354 hC rfl hK hP hD hS 0 (ws' := [(h0, oX12 nw nk mhasKept nt mtaped nr mrowMany mroundOf mroundFrom mouts nm mfromHour mtoHour ns mfrom mto msort misFault mdeep mcoded mlines nl nc nF np ntr nb mbestCost nso nsi nit nsh nsf nss nrc 0 6 mnumber mwhose msize misParted), (nw, iA G 1662 fnw), (nsh, iA G 4 fnsh), (nsf, iA G 4 fnsf), (nrc, iA G 30 fnrc)]) rfl (Nat.le_of_ble_eq_true rfl) rfl rfl rfl gX12_deal_2.2.1 (fun H locs hP hD hS => ?_)
        refine lv_aload_n hx hb gX12_deal_2.2.2.1 rfl (lv_at1 hl) ?_
        refine lv_aload_n hx hb gX12_deal_2.2.2.2.1 rfl (lv_at1 hl) ?_
        refine gf_X12_75 hC rfl hK hP 0 rfl rfl gX12_deal_2.2.2.2.2.1 ?_
        refine lv_iload_n hx hb gX12_deal_2.2.2.2.2.2.1 rfl (lv_at2 hl) ?_
        refine aldN hC hK hP 3 rfl (k := jt) (by omega) (Nat.le_of_ble_eq_true rfl) (v := fnsf jt) rfl gX12_deal_2.2.2.2.2.2.2.1 ?_
        refine lv_topi (fun x6829 ex6829 => ?_)
        obtain ⟨hko9, jno, hjno, ejno⟩ := a6653
        refine eqi (x1 := nI jno) (ex6829.trans ejno) ?_
        refine pf_X12_378 hC rfl hK hP hD hS 0 (ws' := [(h0, oX12 nw nk mhasKept nt mtaped nr mrowMany mroundOf mroundFrom mouts nm mfromHour mtoHour ns mfrom mto msort misFault mdeep mcoded mlines nl nc nF np ntr nb mbestCost nso nsi nit nsh nsf nss nrc 0 6 (nI jno) mwhose msize misParted), (nw, iA G 1662 fnw), (nsh, iA G 4 fnsh), (nsf, iA G 4 fnsf), (nrc, iA G 30 fnrc)]) rfl (Nat.le_of_ble_eq_true rfl) rfl rfl rfl gX12_deal_2.2.2.2.2.2.2.2.1 (fun H locs hP hD hS => ?_)
        refine lv_aload_n hx hb gX12_deal_2.2.2.2.2.2.2.2.2.1 rfl (lv_at1 hl) ?_
        refine gf_X12_72 hC rfl hK hP 0 rfl rfl gX12_deal_2.2.2.2.2.2.2.2.2.2 ?_
        refine lv_iload_n hx hb gX12_deal_3.1 rfl (lv_at2 hl) ?_
        refine aldN hC hK hP 2 rfl (k := jt) (by omega) (Nat.le_of_ble_eq_true rfl) (v := fnsh jt) rfl gX12_deal_3.2.1 ?_
        refine lv_topi (fun x6830 ex6830 => ?_)
        refine lv_iconst (v := 1) hx hb gX12_deal_3.2.2.1 (by decide) ?_
        refine lv_icmp_ne (tgt := 67) hx hb gX12_deal_3.2.2.2.1 (by decide) (fun _ => ?_) (fun c9 => absurd c9 (fun h9 => absurd (hko9.symm.trans ((ex6830.symm).trans h9)) (by decide)))
        refine lv_iconst (v := 0) hx hb gX12_deal_3.2.2.2.2.2.2.1 (by decide) ?_
        refine lv_istore (lv' := [(5, .int 0), (4, .int 6), (0, .ref h0), (1, .int (nI jt)), (2, .int x2), (3, .int x3)]) hx hb gX12_deal_3.2.2.2.2.2.2.2.1 hl (by decide) rfl (fun ls hl => ?_)
        refine lv_aload_n hx hb gX12_deal_3.2.2.2.2.2.2.2.2.1 rfl (lv_at2 hl) ?_
        refine gf_X12_72 hC rfl hK hP 0 rfl rfl gX12_deal_3.2.2.2.2.2.2.2.2.2 ?_
        refine lv_iload_n hx hb gX12_deal_4.1 rfl (lv_at3 hl) ?_
        refine aldN hC hK hP 2 rfl (k := jt) (by omega) (Nat.le_of_ble_eq_true rfl) (v := fnsh jt) rfl gX12_deal_4.2.1 ?_
        refine lv_topi (fun x6831 ex6831 => ?_)
        refine lv_iconst (v := 2) hx hb gX12_deal_4.2.2.1 (by decide) ?_
        refine lv_icmp_ne (tgt := 84) hx hb gX12_deal_4.2.2.2.1 (by decide) (fun _ => ?_) (fun c9 => absurd c9 (fun h9 => absurd (hko9.symm.trans ((ex6831.symm).trans h9)) (by decide)))
        refine lv_iconst (v := 0) hx hb gX12_deal_4.2.2.2.2.2.2.1 (by decide) ?_
        refine lv_istore (lv' := [(6, .int 0), (5, .int 0), (4, .int 6), (0, .ref h0), (1, .int (nI jt)), (2, .int x2), (3, .int x3)]) hx hb gX12_deal_4.2.2.2.2.2.2.2.1 hl (by decide) rfl (fun ls hl => ?_)
        refine lv_aload_n hx hb gX12_deal_4.2.2.2.2.2.2.2.2.1 rfl (lv_at3 hl) ?_
        refine lv_iload hx hb gX12_deal_4.2.2.2.2.2.2.2.2.2 (lv_at1 hl) ?_
        refine lv_if_eq (tgt := 105) hx hb gX12_deal_5.1 (by decide) (fun _ => ?_) (fun c9 => absurd (by decide) c9)
        refine lv_iload hx hb gX12_deal_5.2.2.2.2.2.2.2.1 (lv_at0 hl) ?_
        refine lv_if_eq (tgt := 122) hx hb gX12_deal_5.2.2.2.2.2.2.2.2.1 (by decide) (fun _ => ?_) (fun c9 => absurd (by decide) c9)
        refine lv_aload_n hx hb gX12_deal_6.2.2.2.2.2.1 rfl (lv_at3 hl) ?_
        refine gf_X12_9 hC rfl hK hP 0 rfl rfl gX12_deal_6.2.2.2.2.2.2.1 ?_
        refine lv_sipush (v := 1552) hx hb gX12_deal_6.2.2.2.2.2.2.2.1 (by decide) ?_
        refine lv_iconst (v := 4) hx hb gX12_deal_6.2.2.2.2.2.2.2.2.1 (by decide) ?_
        refine lv_aload_n hx hb gX12_deal_6.2.2.2.2.2.2.2.2.2 rfl (lv_at3 hl) ?_
        refine gf_X12_378 hC rfl hK hP 0 rfl rfl gX12_deal_7.1 ?_
        refine lv_imul hx hb gX12_deal_7.2.1 ?_
        refine eqi (x1 := nI (4 * jno)) (nI_mul 4 jno) ?_
        refine lv_iadd hx hb gX12_deal_7.2.2.1 ?_
        refine eqi (x1 := nI (1552 + 4 * jno)) (nI_add 1552 (4 * jno)) ?_
        refine lv_iconst (v := 0) hx hb gX12_deal_7.2.2.2.1 (by decide) ?_
        refine lv_iadd hx hb gX12_deal_7.2.2.2.2.1 ?_
        refine eqi (x1 := nI (1552 + 4 * jno + 0)) (nI_add (1552 + 4 * jno) 0) ?_
        refine aldN hC hK hP 1 rfl (k := (1552 + 4 * jno + 0)) (by omega) (Nat.le_of_ble_eq_true rfl) (v := fnw (1552 + 4 * jno + 0)) rfl gX12_deal_7.2.2.2.2.2.1 ?_
        refine lv_topi (fun x6832 ex6832 => ?_)
        refine pf_X12_375 hC rfl hK hP hD hS 0 (ws' := [(h0, oX12 nw nk mhasKept nt mtaped nr mrowMany mroundOf mroundFrom mouts nm mfromHour mtoHour ns mfrom mto msort misFault mdeep mcoded mlines nl nc nF np ntr nb mbestCost nso nsi nit nsh nsf nss nrc 0 6 (nI jno) x6832 msize misParted), (nw, iA G 1662 fnw), (nsh, iA G 4 fnsh), (nsf, iA G 4 fnsf), (nrc, iA G 30 fnrc)]) rfl (Nat.le_of_ble_eq_true rfl) rfl rfl rfl gX12_deal_7.2.2.2.2.2.2.1 (fun H locs hP hD hS => ?_)
        refine lv_aload_n hx hb gX12_deal_7.2.2.2.2.2.2.2.1 rfl (lv_at3 hl) ?_
        refine lv_iload hx hb gX12_deal_7.2.2.2.2.2.2.2.2.1 (lv_at1 hl) ?_
        refine lv_if_eq (tgt := 160) hx hb gX12_deal_7.2.2.2.2.2.2.2.2.2 (by decide) (fun _ => ?_) (fun c9 => absurd (by decide) c9)
        refine lv_iload hx hb gX12_deal_8.2.2.2.2.2.2.1 (lv_at0 hl) ?_
        refine lv_if_eq (tgt := 177) hx hb gX12_deal_8.2.2.2.2.2.2.2.1 (by decide) (fun _ => ?_) (fun c9 => absurd (by decide) c9)
        refine lv_aload_n hx hb gX12_deal_9.2.2.2.2.1 rfl (lv_at3 hl) ?_
        refine gf_X12_9 hC rfl hK hP 0 rfl rfl gX12_deal_9.2.2.2.2.2.1 ?_
        refine lv_sipush (v := 1552) hx hb gX12_deal_9.2.2.2.2.2.2.1 (by decide) ?_
        refine lv_iconst (v := 4) hx hb gX12_deal_9.2.2.2.2.2.2.2.1 (by decide) ?_
        refine lv_aload_n hx hb gX12_deal_9.2.2.2.2.2.2.2.2.1 rfl (lv_at3 hl) ?_
        refine gf_X12_378 hC rfl hK hP 0 rfl rfl gX12_deal_9.2.2.2.2.2.2.2.2.2 ?_
        refine lv_imul hx hb gX12_deal_10.1 ?_
        refine eqi (x1 := nI (4 * jno)) (nI_mul 4 jno) ?_
        refine lv_iadd hx hb gX12_deal_10.2.1 ?_
        refine eqi (x1 := nI (1552 + 4 * jno)) (nI_add 1552 (4 * jno)) ?_
        refine lv_iconst (v := 2) hx hb gX12_deal_10.2.2.1 (by decide) ?_
        refine lv_iadd hx hb gX12_deal_10.2.2.2.1 ?_
        refine eqi (x1 := nI (1552 + 4 * jno + 2)) (nI_add (1552 + 4 * jno) 2) ?_
        refine aldN hC hK hP 1 rfl (k := (1552 + 4 * jno + 2)) (by omega) (Nat.le_of_ble_eq_true rfl) (v := fnw (1552 + 4 * jno + 2)) rfl gX12_deal_10.2.2.2.2.1 ?_
        refine lv_topi (fun x6833 ex6833 => ?_)
        refine pf_X12_369 hC rfl hK hP hD hS 0 (ws' := [(h0, oX12 nw nk mhasKept nt mtaped nr mrowMany mroundOf mroundFrom mouts nm mfromHour mtoHour ns mfrom mto msort misFault mdeep mcoded mlines nl nc nF np ntr nb mbestCost nso nsi nit nsh nsf nss nrc 0 6 (nI jno) x6832 x6833 misParted), (nw, iA G 1662 fnw), (nsh, iA G 4 fnsh), (nsf, iA G 4 fnsf), (nrc, iA G 30 fnrc)]) rfl (Nat.le_of_ble_eq_true rfl) rfl rfl rfl gX12_deal_10.2.2.2.2.2.1 (fun H locs hP hD hS => ?_)
        refine lv_aload_n hx hb gX12_deal_10.2.2.2.2.2.2.1 rfl (lv_at3 hl) ?_
        refine lv_iconst (v := 0) hx hb gX12_deal_10.2.2.2.2.2.2.2.1 (by decide) ?_
        refine pf_X12_380 hC rfl hK hP hD hS 0 (ws' := [(h0, oX12 nw nk mhasKept nt mtaped nr mrowMany mroundOf mroundFrom mouts nm mfromHour mtoHour ns mfrom mto msort misFault mdeep mcoded mlines nl nc nF np ntr nb mbestCost nso nsi nit nsh nsf nss nrc 0 6 (nI jno) x6832 x6833 0), (nw, iA G 1662 fnw), (nsh, iA G 4 fnsh), (nsf, iA G 4 fnsf), (nrc, iA G 30 fnrc)]) rfl (Nat.le_of_ble_eq_true rfl) rfl (by decide +kernel) (by decide +kernel) gX12_deal_10.2.2.2.2.2.2.2.2.1 (fun H locs hP hD hS => ?_)
        obtain ⟨jdl, hjdl, rfl⟩ := Wi_nat (N := 3) (by decide) a6651
        rcases (show jdl = 0 ∨ jdl = 1 ∨ jdl = 2 ∨ jdl = 3 by omega) with rfl | rfl | rfl | rfl
        · refine lv_aload_n hx hb gX12_deal_10.2.2.2.2.2.2.2.2.2 rfl (lv_at3 hl) ?_
          refine lv_iload_n hx hb gX12_deal_11.1 rfl (lv_at5 hl) ?_
          refine lv_iload_n hx hb gX12_deal_11.2.1 rfl (lv_at6 hl) ?_
          refine iV (wr := [(nw, iA G 1662 fnw), (nsh, iA G 4 fnsh), (nsf, iA G 4 fnsf)]) hC hK hl hP hD hS hA (m_dealt0 l G h0 x3 nw nk mhasKept nt mtaped nr mrowMany mroundOf mroundFrom mouts nm mfromHour mtoHour ns mfrom mto msort misFault mdeep mcoded mlines nl nc nF np ntr nb mbestCost nso nsi nit nsh nsf nss nrc 0 6 (nI jno) x6832 x6833 0 fnrc (by omega) (by omega)) si_X12_372 [0, 4] [1, 2, 3] sm_0_4 fm_0_4 nd_0_4 sm_1_2_3 nd_1_2_3 dj_0_4__1_2_3 rfl rfl rfl rfl rfl (Nat.le_of_ble_eq_true rfl) rm_60_14_3 ⟨Nat.le_of_ble_eq_true rfl, Nat.le_of_ble_eq_true rfl⟩ gX12_deal_11.2.2.1 (fun r6834 => Ktu3 fun jr16836 ip16837 gtrc6838 => ?_)
          intro H locs hr6834 hP hD hS
          try dsimp only at hr6834
          refine Kpdr (ws := [(nw, iA G 1662 fnw), (nsh, iA G 4 fnsh), (nsf, iA G 4 fnsf), (h0, oX12 nw nk mhasKept nt mtaped nr mrowMany mroundOf mroundFrom mouts nm mfromHour mtoHour ns mfrom mto msort misFault mdeep mcoded mlines nl nc nF np ntr nb mbestCost nso nsi nit nsh nsf nss nrc (nI jr16836) 6 (nI jno) x6832 x6833 ip16837), (nrc, iA G 30 gtrc6838)]) hP hD (fun hP hD => ?_)
          obtain ⟨hr6834, w6839⟩ := hr6834
          refine lv_istore (lv' := [(7, .int r6834), (6, .int 0), (5, .int 0), (4, .int 6), (0, .ref h0), (1, .int (nI jt)), (2, .int 0), (3, .int x3)]) hx hb gX12_deal_11.2.2.2.1 hl (by decide) rfl (fun ls hl => ?_)
          refine lv_aload_n hx hb gX12_deal_11.2.2.2.2.1 rfl (lv_at4 hl) ?_
          refine gf_X12_380 hC rfl hK hP 3 rfl rfl gX12_deal_11.2.2.2.2.2.1 ?_
          refine lv_if_eq (tgt := 222) hx hb gX12_deal_11.2.2.2.2.2.2.1 (by decide) (fun c_214_6840 => ?_) (fun c_214_6840 => ?_)
          · refine lv_iload hx hb gX12_deal_11.2.2.2.2.2.2.2.2.2 (lv_at0 hl) ?_
            refine toQ hQ0 ?_
            exact RI (v := r6834) hC hP hD hS [3, 0, 1, 2, 4] (jr16836, 6, nI jno, x6832, x6833, ip16837, gtrc6838) rfl rfl (by decide) (⟨trivial, by omega⟩) rfl gX12_deal_12
          · refine lv_bipush (v := (-15)) hx hb gX12_deal_11.2.2.2.2.2.2.2.1 (by decide) ?_
            refine lv_goto (tgt := 224) hx hb gX12_deal_11.2.2.2.2.2.2.2.2.1 (by decide) ?_
            refine toQ hQ0 ?_
            exact RI (v := (-15)) hC hP hD hS [3, 0, 1, 2, 4] (jr16836, 6, nI jno, x6832, x6833, ip16837, gtrc6838) rfl rfl (by decide) (⟨trivial, by omega⟩) rfl gX12_deal_12
        · refine lv_aload_n hx hb gX12_deal_10.2.2.2.2.2.2.2.2.2 rfl (lv_at3 hl) ?_
          refine lv_iload_n hx hb gX12_deal_11.1 rfl (lv_at5 hl) ?_
          refine lv_iload_n hx hb gX12_deal_11.2.1 rfl (lv_at6 hl) ?_
          refine iV (wr := [(nw, iA G 1662 fnw), (nsh, iA G 4 fnsh), (nsf, iA G 4 fnsf)]) hC hK hl hP hD hS hA (m_dealt1 l G h0 x3 nw nk mhasKept nt mtaped nr mrowMany mroundOf mroundFrom mouts nm mfromHour mtoHour ns mfrom mto msort misFault mdeep mcoded mlines nl nc nF np ntr nb mbestCost nso nsi nit nsh nsf nss nrc 0 6 (nI jno) x6832 x6833 0 fnrc (by omega) (by omega)) si_X12_372 [0, 4] [1, 2, 3] sm_0_4 fm_0_4 nd_0_4 sm_1_2_3 nd_1_2_3 dj_0_4__1_2_3 rfl rfl rfl rfl rfl (Nat.le_of_ble_eq_true rfl) rm_60_26_3 ⟨Nat.le_of_ble_eq_true rfl, Nat.le_of_ble_eq_true rfl⟩ gX12_deal_11.2.2.1 (fun r6841 => Ktu3 fun jr16843 ip16844 gtrc6845 => ?_)
          intro H locs hr6841 hP hD hS
          try dsimp only at hr6841
          refine Kpdr (ws := [(nw, iA G 1662 fnw), (nsh, iA G 4 fnsh), (nsf, iA G 4 fnsf), (h0, oX12 nw nk mhasKept nt mtaped nr mrowMany mroundOf mroundFrom mouts nm mfromHour mtoHour ns mfrom mto msort misFault mdeep mcoded mlines nl nc nF np ntr nb mbestCost nso nsi nit nsh nsf nss nrc (nI jr16843) 6 (nI jno) x6832 x6833 ip16844), (nrc, iA G 30 gtrc6845)]) hP hD (fun hP hD => ?_)
          obtain ⟨hr6841, w6846⟩ := hr6841
          refine lv_istore (lv' := [(7, .int r6841), (6, .int 0), (5, .int 0), (4, .int 6), (0, .ref h0), (1, .int (nI jt)), (2, .int 1), (3, .int x3)]) hx hb gX12_deal_11.2.2.2.1 hl (by decide) rfl (fun ls hl => ?_)
          refine lv_aload_n hx hb gX12_deal_11.2.2.2.2.1 rfl (lv_at4 hl) ?_
          refine gf_X12_380 hC rfl hK hP 3 rfl rfl gX12_deal_11.2.2.2.2.2.1 ?_
          refine lv_if_eq (tgt := 222) hx hb gX12_deal_11.2.2.2.2.2.2.1 (by decide) (fun c_214_6847 => ?_) (fun c_214_6847 => ?_)
          · refine lv_iload hx hb gX12_deal_11.2.2.2.2.2.2.2.2.2 (lv_at0 hl) ?_
            refine toQ hQ0 ?_
            exact RI (v := r6841) hC hP hD hS [3, 0, 1, 2, 4] (jr16843, 6, nI jno, x6832, x6833, ip16844, gtrc6845) rfl rfl (by decide) (⟨trivial, by omega⟩) rfl gX12_deal_12
          · refine lv_bipush (v := (-15)) hx hb gX12_deal_11.2.2.2.2.2.2.2.1 (by decide) ?_
            refine lv_goto (tgt := 224) hx hb gX12_deal_11.2.2.2.2.2.2.2.2.1 (by decide) ?_
            refine toQ hQ0 ?_
            exact RI (v := (-15)) hC hP hD hS [3, 0, 1, 2, 4] (jr16843, 6, nI jno, x6832, x6833, ip16844, gtrc6845) rfl rfl (by decide) (⟨trivial, by omega⟩) rfl gX12_deal_12
        · refine lv_aload_n hx hb gX12_deal_10.2.2.2.2.2.2.2.2.2 rfl (lv_at3 hl) ?_
          refine lv_iload_n hx hb gX12_deal_11.1 rfl (lv_at5 hl) ?_
          refine lv_iload_n hx hb gX12_deal_11.2.1 rfl (lv_at6 hl) ?_
          refine iV (wr := [(nw, iA G 1662 fnw), (nsh, iA G 4 fnsh), (nsf, iA G 4 fnsf)]) hC hK hl hP hD hS hA (m_dealt2 l G h0 x3 nw nk mhasKept nt mtaped nr mrowMany mroundOf mroundFrom mouts nm mfromHour mtoHour ns mfrom mto msort misFault mdeep mcoded mlines nl nc nF np ntr nb mbestCost nso nsi nit nsh nsf nss nrc 0 6 (nI jno) x6832 x6833 0 fnrc (by omega) (by omega)) si_X12_372 [0, 4] [1, 2, 3] sm_0_4 fm_0_4 nd_0_4 sm_1_2_3 nd_1_2_3 dj_0_4__1_2_3 rfl rfl rfl rfl rfl (Nat.le_of_ble_eq_true rfl) rm_60_38_3 ⟨Nat.le_of_ble_eq_true rfl, Nat.le_of_ble_eq_true rfl⟩ gX12_deal_11.2.2.1 (fun r6848 => Ktu3 fun jr16850 ip16851 gtrc6852 => ?_)
          intro H locs hr6848 hP hD hS
          try dsimp only at hr6848
          refine Kpdr (ws := [(nw, iA G 1662 fnw), (nsh, iA G 4 fnsh), (nsf, iA G 4 fnsf), (h0, oX12 nw nk mhasKept nt mtaped nr mrowMany mroundOf mroundFrom mouts nm mfromHour mtoHour ns mfrom mto msort misFault mdeep mcoded mlines nl nc nF np ntr nb mbestCost nso nsi nit nsh nsf nss nrc (nI jr16850) 6 (nI jno) x6832 x6833 ip16851), (nrc, iA G 30 gtrc6852)]) hP hD (fun hP hD => ?_)
          obtain ⟨hr6848, w6853⟩ := hr6848
          refine lv_istore (lv' := [(7, .int r6848), (6, .int 0), (5, .int 0), (4, .int 6), (0, .ref h0), (1, .int (nI jt)), (2, .int 2), (3, .int x3)]) hx hb gX12_deal_11.2.2.2.1 hl (by decide) rfl (fun ls hl => ?_)
          refine lv_aload_n hx hb gX12_deal_11.2.2.2.2.1 rfl (lv_at4 hl) ?_
          refine gf_X12_380 hC rfl hK hP 3 rfl rfl gX12_deal_11.2.2.2.2.2.1 ?_
          refine lv_if_eq (tgt := 222) hx hb gX12_deal_11.2.2.2.2.2.2.1 (by decide) (fun c_214_6854 => ?_) (fun c_214_6854 => ?_)
          · refine lv_iload hx hb gX12_deal_11.2.2.2.2.2.2.2.2.2 (lv_at0 hl) ?_
            refine toQ hQ0 ?_
            exact RI (v := r6848) hC hP hD hS [3, 0, 1, 2, 4] (jr16850, 6, nI jno, x6832, x6833, ip16851, gtrc6852) rfl rfl (by decide) (⟨trivial, by omega⟩) rfl gX12_deal_12
          · refine lv_bipush (v := (-15)) hx hb gX12_deal_11.2.2.2.2.2.2.2.1 (by decide) ?_
            refine lv_goto (tgt := 224) hx hb gX12_deal_11.2.2.2.2.2.2.2.2.1 (by decide) ?_
            refine toQ hQ0 ?_
            exact RI (v := (-15)) hC hP hD hS [3, 0, 1, 2, 4] (jr16850, 6, nI jno, x6832, x6833, ip16851, gtrc6852) rfl rfl (by decide) (⟨trivial, by omega⟩) rfl gX12_deal_12
        · refine lv_aload_n hx hb gX12_deal_10.2.2.2.2.2.2.2.2.2 rfl (lv_at3 hl) ?_
          refine lv_iload_n hx hb gX12_deal_11.1 rfl (lv_at5 hl) ?_
          refine lv_iload_n hx hb gX12_deal_11.2.1 rfl (lv_at6 hl) ?_
          refine iV (wr := [(nw, iA G 1662 fnw), (nsh, iA G 4 fnsh), (nsf, iA G 4 fnsf)]) hC hK hl hP hD hS hA (m_dealt3 l G h0 x3 nw nk mhasKept nt mtaped nr mrowMany mroundOf mroundFrom mouts nm mfromHour mtoHour ns mfrom mto msort misFault mdeep mcoded mlines nl nc nF np ntr nb mbestCost nso nsi nit nsh nsf nss nrc 0 6 (nI jno) x6832 x6833 0 fnrc (by omega) (by omega)) si_X12_372 [0, 4] [1, 2, 3] sm_0_4 fm_0_4 nd_0_4 sm_1_2_3 nd_1_2_3 dj_0_4__1_2_3 rfl rfl rfl rfl rfl (Nat.le_of_ble_eq_true rfl) rm_60_50_3 ⟨Nat.le_of_ble_eq_true rfl, Nat.le_of_ble_eq_true rfl⟩ gX12_deal_11.2.2.1 (fun r6855 => Ktu3 fun jr16857 ip16858 gtrc6859 => ?_)
          intro H locs hr6855 hP hD hS
          try dsimp only at hr6855
          refine Kpdr (ws := [(nw, iA G 1662 fnw), (nsh, iA G 4 fnsh), (nsf, iA G 4 fnsf), (h0, oX12 nw nk mhasKept nt mtaped nr mrowMany mroundOf mroundFrom mouts nm mfromHour mtoHour ns mfrom mto msort misFault mdeep mcoded mlines nl nc nF np ntr nb mbestCost nso nsi nit nsh nsf nss nrc (nI jr16857) 6 (nI jno) x6832 x6833 ip16858), (nrc, iA G 30 gtrc6859)]) hP hD (fun hP hD => ?_)
          obtain ⟨hr6855, w6860⟩ := hr6855
          refine lv_istore (lv' := [(7, .int r6855), (6, .int 0), (5, .int 0), (4, .int 6), (0, .ref h0), (1, .int (nI jt)), (2, .int 3), (3, .int x3)]) hx hb gX12_deal_11.2.2.2.1 hl (by decide) rfl (fun ls hl => ?_)
          refine lv_aload_n hx hb gX12_deal_11.2.2.2.2.1 rfl (lv_at4 hl) ?_
          refine gf_X12_380 hC rfl hK hP 3 rfl rfl gX12_deal_11.2.2.2.2.2.1 ?_
          refine lv_if_eq (tgt := 222) hx hb gX12_deal_11.2.2.2.2.2.2.1 (by decide) (fun c_214_6861 => ?_) (fun c_214_6861 => ?_)
          · refine lv_iload hx hb gX12_deal_11.2.2.2.2.2.2.2.2.2 (lv_at0 hl) ?_
            refine toQ hQ0 ?_
            exact RI (v := r6855) hC hP hD hS [3, 0, 1, 2, 4] (jr16857, 6, nI jno, x6832, x6833, ip16858, gtrc6859) rfl rfl (by decide) (⟨trivial, by omega⟩) rfl gX12_deal_12
          · refine lv_bipush (v := (-15)) hx hb gX12_deal_11.2.2.2.2.2.2.2.1 (by decide) ?_
            refine lv_goto (tgt := 224) hx hb gX12_deal_11.2.2.2.2.2.2.2.2.1 (by decide) ?_
            refine toQ hQ0 ?_
            exact RI (v := (-15)) hC hP hD hS [3, 0, 1, 2, 4] (jr16857, 6, nI jno, x6832, x6833, ip16858, gtrc6859) rfl rfl (by decide) (⟨trivial, by omega⟩) rfl gX12_deal_12
    · refine lv_if_ne (tgt := 23) hx hb gX12_deal_0.2.2.2.2.2.2.2.2.1 (by decide) (fun c9 => absurd (by decide) c9) (fun _ => ?_)
      refine lv_iconst (v := (-1)) hx hb gX12_deal_0.2.2.2.2.2.2.2.2.2 (by decide) ?_
      refine lv_goto (tgt := 28) hx hb gX12_deal_1.1 (by decide) ?_
      refine lv_istore (lv' := [(4, .int (-1)), (0, .ref h0), (1, .int x1), (2, .int x2), (3, .int x3)]) hx hb gX12_deal_1.2.2.2.2.1 hl (by decide) rfl (fun ls hl => ?_)
      refine lv_iload hx hb gX12_deal_1.2.2.2.2.2.1 (lv_at0 hl) ?_
      refine lv_if_ge (tgt := 37) hx hb gX12_deal_1.2.2.2.2.2.2.1 (by decide) (fun c9 => absurd c9 (by decide)) (fun _ => ?_)
      refine lv_iconst (v := 0) hx hb gX12_deal_1.2.2.2.2.2.2.2.1 (by decide) ?_
      refine toQ hQ0 ?_
      exact RI (v := 0) hC hP hD hS [0, 1, 2, 3, 4] (0, mdealer, mnumber, mwhose, msize, misParted, fnrc) rfl rfl (by decide) (⟨trivial, by omega⟩) rfl gX12_deal_1.2.2.2.2.2.2.2.2.1
  · refine lv_if_eq (tgt := 19) hx hb gX12_deal_0.2.2.2.2.2.1 (by decide) (fun _ => ?_) (fun c9 => absurd (by decide) c9)
    refine lv_iconst (v := (-1)) hx hb gX12_deal_0.2.2.2.2.2.2.2.2.2 (by decide) ?_
    refine lv_goto (tgt := 28) hx hb gX12_deal_1.1 (by decide) ?_
    refine lv_istore (lv' := [(4, .int (-1)), (0, .ref h0), (1, .int x1), (2, .int x2), (3, .int x3)]) hx hb gX12_deal_1.2.2.2.2.1 hl (by decide) rfl (fun ls hl => ?_)
    refine lv_iload hx hb gX12_deal_1.2.2.2.2.2.1 (lv_at0 hl) ?_
    refine lv_if_ge (tgt := 37) hx hb gX12_deal_1.2.2.2.2.2.2.1 (by decide) (fun c9 => absurd c9 (by decide)) (fun _ => ?_)
    refine lv_iconst (v := 0) hx hb gX12_deal_1.2.2.2.2.2.2.2.1 (by decide) ?_
    refine toQ hQ0 ?_
    exact RI (v := 0) hC hP hD hS [0, 1, 2, 3, 4] (0, mdealer, mnumber, mwhose, msize, misParted, fnrc) rfl rfl (by decide) (⟨trivial, by omega⟩) rfl gX12_deal_1.2.2.2.2.2.2.2.2.1
def K_r_trace (l : Launch) (G : GG) (h0 : Nat) (x1 : Int32) (nw : Nat) (nk : Nat) (mhasKept : Int32) (nt : Nat) (mtaped : Int32) (nr : Nat) (mrowMany : Int32) (mroundOf : Int32) (mroundFrom : Int32) (mouts : Int32) (nm : Nat) (mfromHour : Int32) (mtoHour : Int32) (ns : Nat) (mfrom : Int32) (mto : Int32) (msort : Int32) (misFault : Int32) (mdeep : Int32) (mcoded : Int32) (mlines : Int32) (nl : Nat) (nc : Nat) (nF : Nat) (np : Nat) (ntr : Nat) (nb : Nat) (mbestCost : Int32) (nso : Nat) (nsi : Nat) (nit : Nat) (nsh : Nat) (nsf : Nat) (nss : Nat) (nrc : Nat) (jr : Nat) (mdealer : Int32) (mnumber : Int32) (mwhose : Int32) (msize : Int32) (misParted : Int32) (fnrc : Nat → Int32) : Prop := MP l G yX12_trace cX12_trace 2 (some .int) 2 [.ref h0, .int x1] [(h0, oX12 nw nk mhasKept nt mtaped nr mrowMany mroundOf mroundFrom mouts nm mfromHour mtoHour ns mfrom mto msort misFault mdeep mcoded mlines nl nc nF np ntr nb mbestCost nso nsi nit nsh nsf nss nrc (nI jr) mdealer mnumber mwhose msize misParted), (nrc, iA G 30 fnrc)] (fun r : Int32 => r = ifc (Hs x1 jr) (fnrc x1.toNatClampNeg) (-3))
set_option maxHeartbeats 4000000 in
set_option maxRecDepth 100000 in
theorem r_trace (l : Launch) (G : GG) (h0 : Nat) (x1 : Int32) (nw : Nat) (nk : Nat) (mhasKept : Int32) (nt : Nat) (mtaped : Int32) (nr : Nat) (mrowMany : Int32) (mroundOf : Int32) (mroundFrom : Int32) (mouts : Int32) (nm : Nat) (mfromHour : Int32) (mtoHour : Int32) (ns : Nat) (mfrom : Int32) (mto : Int32) (msort : Int32) (misFault : Int32) (mdeep : Int32) (mcoded : Int32) (mlines : Int32) (nl : Nat) (nc : Nat) (nF : Nat) (np : Nat) (ntr : Nat) (nb : Nat) (mbestCost : Int32) (nso : Nat) (nsi : Nat) (nit : Nat) (nsh : Nat) (nsf : Nat) (nss : Nat) (nrc : Nat) (jr : Nat) (mdealer : Int32) (mnumber : Int32) (mwhose : Int32) (msize : Int32) (misParted : Int32) (fnrc : Nat → Int32) (hjr : jr ≤ 30) : K_r_trace l G h0 x1 nw nk mhasKept nt mtaped nr mrowMany mroundOf mroundFrom mouts nm mfromHour mtoHour ns mfrom mto msort misFault mdeep mcoded mlines nl nc nF np ntr nb mbestCost nso nsi nit nsh nsf nss nrc jr mdealer mnumber mwhose msize misParted fnrc := by
  refine MP.start (by decide +kernel) (Nat.le_of_ble_eq_true rfl) ?_
  intro p e s m below meth c ls hC hK hP hD hl
  refine absQ (fun Q0 hQ0 => ?_)
  have hl : lv_has ls 2 [(0, .ref h0), (1, .int x1)] := hl
  refine Kan8 hC (fun hx hb hr hml hB hown hlocks hnm => ?_)
  refine lv_iload_n hx hb gX12_trace_0.1 rfl (lv_at1 hl) ?_
  refine lv_iconst (v := 0) hx hb gX12_trace_0.2.1 (by decide) ?_
  refine lv_aload_n hx hb gX12_trace_0.2.2.1 rfl (lv_at0 hl) ?_
  refine gf_X12_351 hC rfl hK hP 0 rfl rfl gX12_trace_0.2.2.2.1 ?_
  refine lv_iconst (v := 1) hx hb gX12_trace_0.2.2.2.2.1 (by decide) ?_
  refine lv_isub hx hb gX12_trace_0.2.2.2.2.2.1 ?_
  refine eqi (x1 := (nI jr) - 1) (rfl) ?_
  refine pS hC hK hl (m_within l G x1 0 ((nI jr) - 1)) si_X12_84 rfl rfl (Nat.le_of_ble_eq_true rfl) rm_2_1_3 ⟨by first | exact Nat.le_of_ble_eq_true rfl | exact Nat.zero_le _, by first | exact Nat.le_of_ble_eq_true rfl | exact Nat.zero_le _⟩ gX12_trace_0.2.2.2.2.2.2.1 (Kors (Keqa fun a6863 => ?_) (Keqa fun a6863 => ?_))
  · refine lv_if_eq (tgt := 23) hx hb gX12_trace_0.2.2.2.2.2.2.2.1 (by decide) (fun c9 => absurd c9 (by decide)) (fun _ => ?_)
    obtain ⟨ji, hji, rfl⟩ := Hs_nat (by omega) ((WiHs (by omega)).mp a6863)
    refine lv_aload_n hx hb gX12_trace_0.2.2.2.2.2.2.2.2.1 rfl (lv_at0 hl) ?_
    refine gf_X12_81 hC rfl hK hP 0 rfl rfl gX12_trace_0.2.2.2.2.2.2.2.2.2 ?_
    refine lv_iload_n hx hb gX12_trace_1.1 rfl (lv_at1 hl) ?_
    refine aldN hC hK hP 1 rfl (k := ji) (by omega) (Nat.le_of_ble_eq_true rfl) (v := fnrc ji) rfl gX12_trace_1.2.1 ?_
    refine lv_goto (tgt := 25) hx hb gX12_trace_1.2.2.1 (by decide) ?_
    refine toQ hQ0 ?_
    exact RP (v := fnrc ji) hC ((by simp only [nI_clamp (n := ji) (by omega), ifc_t (q := Hs (nI ji) jr) ((WiHc (by omega)).mp a6863)])) rfl gX12_trace_1.2.2.2.2
  · refine lv_if_eq (tgt := 23) hx hb gX12_trace_0.2.2.2.2.2.2.2.1 (by decide) (fun _ => ?_) (fun c9 => absurd (by decide) c9)
    refine lv_bipush (v := (-3)) hx hb gX12_trace_1.2.2.2.1 (by decide) ?_
    refine toQ hQ0 ?_
    exact RP (v := (-3)) hC ((by simp only [ifc_f (q := Hs x1 jr) (fun h9 => a6863 ((WiHc (by omega)).mpr h9))])) rfl gX12_trace_1.2.2.2.2
def K_r_many (l : Launch) (G : GG) (h0 : Nat) (x1 : Int32) (nw : Nat) (nk : Nat) (mhasKept : Int32) (nt : Nat) (mtaped : Int32) (nr : Nat) (mrowMany : Int32) (mroundOf : Int32) (mroundFrom : Int32) (mouts : Int32) (nm : Nat) (mfromHour : Int32) (mtoHour : Int32) (ns : Nat) (mfrom : Int32) (mto : Int32) (msort : Int32) (misFault : Int32) (mdeep : Int32) (mcoded : Int32) (mlines : Int32) (nl : Nat) (nc : Nat) (nF : Nat) (np : Nat) (ntr : Nat) (nb : Nat) (mbestCost : Int32) (nso : Nat) (nsi : Nat) (nit : Nat) (nsh : Nat) (nsf : Nat) (nss : Nat) (nrc : Nat) (mtraced : Int32) (mdealer : Int32) (mnumber : Int32) (mwhose : Int32) (msize : Int32) (misParted : Int32) (fnw : Nat → Int32) (fnm : Nat → Int32) (fns : Nat → Int32) (fnp : Nat → Int32) : Prop := MI l G yX12_many cX12_many 4 (some .int) 10 0 0 [.ref h0, .int x1] [(h0, oX12 nw nk mhasKept nt mtaped nr mrowMany mroundOf mroundFrom mouts nm mfromHour mtoHour ns mfrom mto msort misFault mdeep mcoded mlines nl nc nF np ntr nb mbestCost nso nsi nit nsh nsf nss nrc mtraced mdealer mnumber mwhose msize misParted), (nw, iA G 1662 fnw), (nm, iA G 36 fnm), (ns, iA G 8 fns), (np, iA G 100 fnp)] (fun (r : Int32) (u : Int32 × Int32 × (Nat → Int32) × (Nat → Int32) × (Nat → Int32)) => (True) ∧ (MB u.2.2.1)) (fun u : Int32 × Int32 × (Nat → Int32) × (Nat → Int32) × (Nat → Int32) => [(h0, oX12 nw nk mhasKept nt mtaped nr mrowMany mroundOf mroundFrom mouts nm u.1 u.2.1 ns mfrom mto msort misFault mdeep mcoded mlines nl nc nF np ntr nb mbestCost nso nsi nit nsh nsf nss nrc mtraced mdealer mnumber mwhose msize misParted), (nw, iA G 1662 fnw), (nm, iA G 36 u.2.2.1), (ns, iA G 8 u.2.2.2.1), (np, iA G 100 u.2.2.2.2)])
set_option maxHeartbeats 4000000 in
set_option maxRecDepth 100000 in
theorem r_many (l : Launch) (G : GG) (h0 : Nat) (x1 : Int32) (nw : Nat) (nk : Nat) (mhasKept : Int32) (nt : Nat) (mtaped : Int32) (nr : Nat) (mrowMany : Int32) (mroundOf : Int32) (mroundFrom : Int32) (mouts : Int32) (nm : Nat) (mfromHour : Int32) (mtoHour : Int32) (ns : Nat) (mfrom : Int32) (mto : Int32) (msort : Int32) (misFault : Int32) (mdeep : Int32) (mcoded : Int32) (mlines : Int32) (nl : Nat) (nc : Nat) (nF : Nat) (np : Nat) (ntr : Nat) (nb : Nat) (mbestCost : Int32) (nso : Nat) (nsi : Nat) (nit : Nat) (nsh : Nat) (nsf : Nat) (nss : Nat) (nrc : Nat) (mtraced : Int32) (mdealer : Int32) (mnumber : Int32) (mwhose : Int32) (msize : Int32) (misParted : Int32) (fnw : Nat → Int32) (fnm : Nat → Int32) (fns : Nat → Int32) (fnp : Nat → Int32) (hN : NI fnw) (hV : VI fnw) (hM : MB fnm) : K_r_many l G h0 x1 nw nk mhasKept nt mtaped nr mrowMany mroundOf mroundFrom mouts nm mfromHour mtoHour ns mfrom mto msort misFault mdeep mcoded mlines nl nc nF np ntr nb mbestCost nso nsi nit nsh nsf nss nrc mtraced mdealer mnumber mwhose msize misParted fnw fnm fns fnp := by
  refine MI.start (by decide +kernel) (Nat.le_of_ble_eq_true rfl) ?_
  intro p e s m below meth c A ls hC hK hP hD hS hA hl
  refine absQ (fun Q0 hQ0 => ?_)
  have hl : lv_has ls 4 [(0, .ref h0), (1, .int x1)] := hl
  refine Kan8 hC (fun hx hb hr hml hB hown hlocks hnm => ?_)
  obtain ⟨k9, hk9, ek9⟩ := NI.nat hN (i := 9) (B := 12) (by decide +kernel) (by decide)
  refine lv_iload_n hx hb gX12_many_0.1 rfl (lv_at1 hl) ?_
  by_cases c_1_6864 : x1 = 0
  · refine lv_tableIn (tgt := 76) hx hb gX12_many_0.2.1 (by rw [c_1_6864]; decide) (by rw [c_1_6864]; decide) (by rw [c_1_6864]; rfl) (by decide) ?_
    refine lv_aload_n hx hb gX12_many_0.2.2.1 rfl (lv_at0 hl) ?_
    refine gf_X12_9 hC rfl hK hP 0 rfl rfl gX12_many_0.2.2.2.1 ?_
    refine lv_iconst (v := 0) hx hb gX12_many_0.2.2.2.2.1 (by decide) ?_
    refine ald hC hK hP 1 rfl (vin (by decide +kernel)) (k := 0) (by decide +kernel) (v := fnw 0) (rfl) gX12_many_0.2.2.2.2.2.1 ?_
    refine toQ hQ0 ?_
    exact RI (v := fnw 0) hC hP hD hS [0, 1, 2, 3, 4] (mfromHour, mtoHour, fnm, fns, fnp) rfl rfl (by decide) (⟨trivial, by first | assumption | exact hM⟩) rfl gX12_many_0.2.2.2.2.2.2.1
  by_cases c_1_6865 : x1 = 1
  · refine lv_tableIn (tgt := 83) hx hb gX12_many_0.2.1 (by rw [c_1_6865]; decide) (by rw [c_1_6865]; decide) (by rw [c_1_6865]; rfl) (by decide) ?_
    refine lv_aload_n hx hb gX12_many_0.2.2.2.2.2.2.2.1 rfl (lv_at0 hl) ?_
    refine gf_X12_9 hC rfl hK hP 0 rfl rfl gX12_many_0.2.2.2.2.2.2.2.2.1 ?_
    refine lv_iconst (v := 4) hx hb gX12_many_0.2.2.2.2.2.2.2.2.2 (by decide) ?_
    refine ald hC hK hP 1 rfl (vin (by decide +kernel)) (k := 4) (by decide +kernel) (v := fnw 4) (rfl) gX12_many_1.1 ?_
    refine toQ hQ0 ?_
    exact RI (v := fnw 4) hC hP hD hS [0, 1, 2, 3, 4] (mfromHour, mtoHour, fnm, fns, fnp) rfl rfl (by decide) (⟨trivial, by first | assumption | exact hM⟩) rfl gX12_many_1.2.1
  by_cases c_1_6866 : x1 = 2
  · refine lv_tableIn (tgt := 90) hx hb gX12_many_0.2.1 (by rw [c_1_6866]; decide) (by rw [c_1_6866]; decide) (by rw [c_1_6866]; rfl) (by decide) ?_
    refine lv_aload_n hx hb gX12_many_1.2.2.1 rfl (lv_at0 hl) ?_
    refine gf_X12_9 hC rfl hK hP 0 rfl rfl gX12_many_1.2.2.2.1 ?_
    refine lv_iconst (v := 5) hx hb gX12_many_1.2.2.2.2.1 (by decide) ?_
    refine ald hC hK hP 1 rfl (vin (by decide +kernel)) (k := 5) (by decide +kernel) (v := fnw 5) (rfl) gX12_many_1.2.2.2.2.2.1 ?_
    refine toQ hQ0 ?_
    exact RI (v := fnw 5) hC hP hD hS [0, 1, 2, 3, 4] (mfromHour, mtoHour, fnm, fns, fnp) rfl rfl (by decide) (⟨trivial, by first | assumption | exact hM⟩) rfl gX12_many_1.2.2.2.2.2.2.1
  by_cases c_1_6867 : x1 = 3
  · refine lv_tableIn (tgt := 97) hx hb gX12_many_0.2.1 (by rw [c_1_6867]; decide) (by rw [c_1_6867]; decide) (by rw [c_1_6867]; rfl) (by decide) ?_
    refine lv_aload_n hx hb gX12_many_1.2.2.2.2.2.2.2.1 rfl (lv_at0 hl) ?_
    refine pV hC hK hl hP hD (m_inView l G h0 nw nk mhasKept nt mtaped nr mrowMany mroundOf mroundFrom mouts nm mfromHour mtoHour ns mfrom mto msort misFault mdeep mcoded mlines nl nc nF np ntr nb mbestCost nso nsi nit nsh nsf nss nrc mtraced mdealer mnumber mwhose msize misParted fnw (hN)) si_X12_107 [0, 1] sm_0_1 fm_0_1 nd_0_1 rfl rfl rfl rfl rfl (Nat.le_of_ble_eq_true rfl) rm_10_3_3 ⟨by first | exact Nat.le_of_ble_eq_true rfl | exact Nat.zero_le _, by first | exact Nat.le_of_ble_eq_true rfl | exact Nat.zero_le _⟩ gX12_many_1.2.2.2.2.2.2.2.2.1 (fun r6868 hr6868 => ?_)
    refine pS hC hK hl (m_bits l G r6868) si_X12_110 rfl rfl (Nat.le_of_ble_eq_true rfl) rm_10_1_3 ⟨by first | exact Nat.le_of_ble_eq_true rfl | exact Nat.zero_le _, by first | exact Nat.le_of_ble_eq_true rfl | exact Nat.zero_le _⟩ gX12_many_1.2.2.2.2.2.2.2.2.2 (fun r6869 hr6869 => ?_)
    refine toQ hQ0 ?_
    exact RI (v := r6869) hC hP hD hS [0, 1, 2, 3, 4] (mfromHour, mtoHour, fnm, fns, fnp) rfl rfl (by decide) (⟨trivial, by first | assumption | exact hM⟩) rfl gX12_many_2.1
  by_cases c_1_6870 : x1 = 4
  · refine lv_tableIn (tgt := 105) hx hb gX12_many_0.2.1 (by rw [c_1_6870]; decide) (by rw [c_1_6870]; decide) (by rw [c_1_6870]; rfl) (by decide) ?_
    refine lv_aload_n hx hb gX12_many_2.2.1 rfl (lv_at0 hl) ?_
    refine gf_X12_9 hC rfl hK hP 0 rfl rfl gX12_many_2.2.2.1 ?_
    refine lv_bipush (v := 6) hx hb gX12_many_2.2.2.2.1 (by decide) ?_
    refine ald hC hK hP 1 rfl (vin (by decide +kernel)) (k := 6) (by decide +kernel) (v := fnw 6) (rfl) gX12_many_2.2.2.2.2.1 ?_
    refine toQ hQ0 ?_
    exact RI (v := fnw 6) hC hP hD hS [0, 1, 2, 3, 4] (mfromHour, mtoHour, fnm, fns, fnp) rfl rfl (by decide) (⟨trivial, by first | assumption | exact hM⟩) rfl gX12_many_2.2.2.2.2.2.1
  by_cases c_1_6871 : x1 = 5
  · refine lv_tableIn (tgt := 113) hx hb gX12_many_0.2.1 (by rw [c_1_6871]; decide) (by rw [c_1_6871]; decide) (by rw [c_1_6871]; rfl) (by decide) ?_
    refine lv_aload_n hx hb gX12_many_2.2.2.2.2.2.2.1 rfl (lv_at0 hl) ?_
    refine gf_X12_9 hC rfl hK hP 0 rfl rfl gX12_many_2.2.2.2.2.2.2.2.1 ?_
    refine lv_bipush (v := 7) hx hb gX12_many_2.2.2.2.2.2.2.2.2.1 (by decide) ?_
    refine ald hC hK hP 1 rfl (vin (by decide +kernel)) (k := 7) (by decide +kernel) (v := fnw 7) (rfl) gX12_many_2.2.2.2.2.2.2.2.2.2 ?_
    refine toQ hQ0 ?_
    exact RI (v := fnw 7) hC hP hD hS [0, 1, 2, 3, 4] (mfromHour, mtoHour, fnm, fns, fnp) rfl rfl (by decide) (⟨trivial, by first | assumption | exact hM⟩) rfl gX12_many_3.1
  by_cases c_1_6872 : x1 = 6
  · refine lv_tableIn (tgt := 121) hx hb gX12_many_0.2.1 (by rw [c_1_6872]; decide) (by rw [c_1_6872]; decide) (by rw [c_1_6872]; rfl) (by decide) ?_
    refine lv_aload_n hx hb gX12_many_3.2.1 rfl (lv_at0 hl) ?_
    refine gf_X12_9 hC rfl hK hP 0 rfl rfl gX12_many_3.2.2.1 ?_
    refine lv_bipush (v := 8) hx hb gX12_many_3.2.2.2.1 (by decide) ?_
    refine ald hC hK hP 1 rfl (vin (by decide +kernel)) (k := 8) (by decide +kernel) (v := fnw 8) (rfl) gX12_many_3.2.2.2.2.1 ?_
    refine toQ hQ0 ?_
    exact RI (v := fnw 8) hC hP hD hS [0, 1, 2, 3, 4] (mfromHour, mtoHour, fnm, fns, fnp) rfl rfl (by decide) (⟨trivial, by first | assumption | exact hM⟩) rfl gX12_many_3.2.2.2.2.2.1
  by_cases c_1_6873 : x1 = 7
  · refine lv_tableIn (tgt := 129) hx hb gX12_many_0.2.1 (by rw [c_1_6873]; decide) (by rw [c_1_6873]; decide) (by rw [c_1_6873]; rfl) (by decide) ?_
    refine lv_aload_n hx hb gX12_many_3.2.2.2.2.2.2.1 rfl (lv_at0 hl) ?_
    refine lv_iconst (v := (-1)) hx hb gX12_many_3.2.2.2.2.2.2.2.1 (by decide) ?_
    refine pV hC hK hl hP hD (m_saidBy l G h0 (-1) nw nk mhasKept nt mtaped nr mrowMany mroundOf mroundFrom mouts nm mfromHour mtoHour ns mfrom mto msort misFault mdeep mcoded mlines nl nc nF np ntr nb mbestCost nso nsi nit nsh nsf nss nrc mtraced mdealer mnumber mwhose msize misParted fnw (hN)) si_X12_127 [0, 1] sm_0_1 fm_0_1 nd_0_1 rfl rfl rfl rfl rfl (Nat.le_of_ble_eq_true rfl) rm_10_5_4 ⟨by first | exact Nat.le_of_ble_eq_true rfl | exact Nat.zero_le _, by first | exact Nat.le_of_ble_eq_true rfl | exact Nat.zero_le _⟩ gX12_many_3.2.2.2.2.2.2.2.2.1 (fun r6874 hr6874 => ?_)
    refine toQ hQ0 ?_
    exact RI (v := r6874) hC hP hD hS [0, 1, 2, 3, 4] (mfromHour, mtoHour, fnm, fns, fnp) rfl rfl (by decide) (⟨trivial, by first | assumption | exact hM⟩) rfl gX12_many_3.2.2.2.2.2.2.2.2.2
  by_cases c_1_6875 : x1 = 8
  · refine lv_tableIn (tgt := 135) hx hb gX12_many_0.2.1 (by rw [c_1_6875]; decide) (by rw [c_1_6875]; decide) (by rw [c_1_6875]; rfl) (by decide) ?_
    refine lv_aload_n hx hb gX12_many_4.1 rfl (lv_at0 hl) ?_
    refine gf_X12_9 hC rfl hK hP 0 rfl rfl gX12_many_4.2.1 ?_
    refine lv_bipush (v := 9) hx hb gX12_many_4.2.2.1 (by decide) ?_
    refine ald hC hK hP 1 rfl (vin (by decide +kernel)) (k := 9) (by decide +kernel) (v := nI k9) (ek9) gX12_many_4.2.2.2.1 ?_
    refine toQ hQ0 ?_
    exact RI (v := nI k9) hC hP hD hS [0, 1, 2, 3, 4] (mfromHour, mtoHour, fnm, fns, fnp) rfl rfl (by decide) (⟨trivial, by first | assumption | exact hM⟩) rfl gX12_many_4.2.2.2.2.1
  by_cases c_1_6876 : x1 = 9
  · refine lv_tableIn (tgt := 143) hx hb gX12_many_0.2.1 (by rw [c_1_6876]; decide) (by rw [c_1_6876]; decide) (by rw [c_1_6876]; rfl) (by decide) ?_
    refine lv_iconst (v := 0) hx hb gX12_many_4.2.2.2.2.2.1 (by decide) ?_
    refine lv_istore_n (lv' := [(2, .int 0), (0, .ref h0), (1, .int x1)]) hx hb gX12_many_4.2.2.2.2.2.2.1 rfl hl (by decide) rfl (fun ls hl => ?_)
    refine lv_iconst (v := 0) hx hb gX12_many_4.2.2.2.2.2.2.2.1 (by decide) ?_
    refine lv_istore_n (lv' := [(3, .int 0), (2, .int 0), (0, .ref h0), (1, .int x1)]) hx hb gX12_many_4.2.2.2.2.2.2.2.2.1 rfl hl (by decide) rfl (fun ls hl => ?_)
    have keyP : ∀ (nP kP : Nat) (nn : Int32) (vfh : Int32) (vth : Int32) (vA : Nat → Int32) (vS : Nat → Int32) (vR : Nat → Int32) (H : Heap) (locs : List Loc) (ls : Array Slot), kP + nP = k9 → (MB vA) → va_PD G A [(h0, oX12 nw nk mhasKept nt mtaped nr mrowMany mroundOf mroundFrom mouts nm vfh vth ns mfrom mto msort misFault mdeep mcoded mlines nl nc nF np ntr nb mbestCost nso nsi nit nsh nsf nss nrc mtraced mdealer mnumber mwhose msize misParted), (nw, iA G 1662 fnw), (nm, iA G 36 vA), (ns, iA G 8 vS), (np, iA G 100 vR)] H → va_S A s.heap H locs → lv_has ls 4 [(3, .int (nI kP)), (2, .int nn), (0, .ref h0), (1, .int x1)] → W p l e (RM 10 0 0) s m ([.ref h0, .int x1] : List Value).toArray below meth c H locs 0 0 Q0 (F0 m 147 ls []) := by
      intro nP
      induction nP with
      | zero =>
        intro kP nn vfh vth vA vS vR H locs ls hkP hvA hPD hS hl
        refine Kan2 hPD (fun hP hD => ?_)
        obtain rfl : k9 = kP := by omega
        have hl : lv_has ls 4 [(3, .int (nI k9)), (2, .int nn), (0, .ref h0), (1, .int x1)] := hl
        refine lv_iload_n hx hb gX12_many_4.2.2.2.2.2.2.2.2.2 rfl (lv_at0 hl) ?_
        refine lv_aload_n hx hb gX12_many_5.1 rfl (lv_at2 hl) ?_
        refine gf_X12_9 hC rfl hK hP 0 rfl rfl gX12_many_5.2.1 ?_
        refine lv_bipush (v := 9) hx hb gX12_many_5.2.2.1 (by decide) ?_
        refine ald hC hK hP 1 rfl (vin (by decide +kernel)) (k := 9) (by decide +kernel) (v := nI k9) (ek9) gX12_many_5.2.2.2.1 ?_
        refine lv_icmp_ge (tgt := 180) hx hb gX12_many_5.2.2.2.2.1 (by decide) (fun _ => ?_) (fun c9 => absurd (Int32.le_refl _) c9)
        refine lv_iload_n hx hb gX12_many_6.2.2.2.2.2.2.2.1 rfl (lv_at1 hl) ?_
        refine toQ hQ0 ?_
        exact RI (v := nn) hC hP hD hS [0, 1, 2, 3, 4] (vfh, vth, vA, vS, vR) rfl rfl (by decide) (⟨trivial, by first | assumption | exact hM⟩) rfl gX12_many_6.2.2.2.2.2.2.2.2.1
      | succ nP ihP =>
        intro kP nn vfh vth vA vS vR H locs ls hkP hvA hPD hS hl
        refine Kan2 hPD (fun hP hD => ?_)
        refine lv_iload_n hx hb gX12_many_4.2.2.2.2.2.2.2.2.2 rfl (lv_at0 hl) ?_
        refine lv_aload_n hx hb gX12_many_5.1 rfl (lv_at2 hl) ?_
        refine gf_X12_9 hC rfl hK hP 0 rfl rfl gX12_many_5.2.1 ?_
        refine lv_bipush (v := 9) hx hb gX12_many_5.2.2.1 (by decide) ?_
        refine ald hC hK hP 1 rfl (vin (by decide +kernel)) (k := 9) (by decide +kernel) (v := nI k9) (ek9) gX12_many_5.2.2.2.1 ?_
        refine lv_icmp_ge (tgt := 180) hx hb gX12_many_5.2.2.2.2.1 (by decide) (fun c9 => absurd c9 (nI_ge (a := kP) (b := k9) (by omega) (by omega))) (fun _ => ?_)
        refine lv_iload_n hx hb gX12_many_5.2.2.2.2.2.1 rfl (lv_at1 hl) ?_
        refine lv_aload_n hx hb gX12_many_5.2.2.2.2.2.2.1 rfl (lv_at2 hl) ?_
        refine lv_iload_n hx hb gX12_many_5.2.2.2.2.2.2.2.1 rfl (lv_at0 hl) ?_
        refine iV (wr := []) hC hK hl hP hD hS hA (m_stands l G h0 kP nw nk mhasKept nt mtaped nr mrowMany mroundOf mroundFrom mouts nm vfh vth ns mfrom mto msort misFault mdeep mcoded mlines nl nc nF np ntr nb mbestCost nso nsi nit nsh nsf nss nrc mtraced mdealer mnumber mwhose msize misParted fnw vA vS vR (by omega) (hN) (hV) (hvA)) si_X12_305 [0, 1, 2, 3, 4] [] sm_0_1_2_3_4 fm_0_1_2_3_4 nd_0_1_2_3_4 rfl rfl (by decide) rfl rfl rfl rfl rfl (Nat.le_of_ble_eq_true rfl) rm_10_9_3 ⟨Nat.le_of_ble_eq_true rfl, Nat.le_of_ble_eq_true rfl⟩ gX12_many_5.2.2.2.2.2.2.2.2.1 (fun r6877 => Ktu5 fun fh16879 th16880 gnm6881 gns6882 gnp6883 => ?_)
        intro H locs hr6877 hP hD hS
        try dsimp only at hr6877
        refine Kpdr (ws := [(h0, oX12 nw nk mhasKept nt mtaped nr mrowMany mroundOf mroundFrom mouts nm fh16879 th16880 ns mfrom mto msort misFault mdeep mcoded mlines nl nc nF np ntr nb mbestCost nso nsi nit nsh nsf nss nrc mtraced mdealer mnumber mwhose msize misParted), (nw, iA G 1662 fnw), (nm, iA G 36 gnm6881), (ns, iA G 8 gns6882), (np, iA G 100 gnp6883)]) hP hD (fun hP hD => ?_)
        obtain ⟨hr6877, w6884⟩ := hr6877
        rcases hr6877 with rfl | rfl
        · refine lv_if_eq (tgt := 171) hx hb gX12_many_5.2.2.2.2.2.2.2.2.2 (by decide) (fun c9 => absurd c9 (by decide)) (fun _ => ?_)
          refine lv_iconst (v := 1) hx hb gX12_many_6.1 (by decide) ?_
          refine lv_goto (tgt := 172) hx hb gX12_many_6.2.1 (by decide) ?_
          refine lv_iadd hx hb gX12_many_6.2.2.2.1 ?_
          refine lv_istore_n (lv' := [(2, .int (nn + 1)), (3, .int (nI kP)), (0, .ref h0), (1, .int x1)]) hx hb gX12_many_6.2.2.2.2.1 rfl hl (by decide) rfl (fun ls hl => ?_)
          refine lv_iinc (v := nI (kP + 1)) (lv' := [(3, .int (nI (kP + 1))), (2, .int (nn + 1)), (0, .ref h0), (1, .int x1)]) hx hb gX12_many_6.2.2.2.2.2.1 hl (k := 1) rfl (nI_1 _) (by decide) rfl (fun ls hl => ?_)
          refine lv_goto (tgt := 147) hx hb gX12_many_6.2.2.2.2.2.2.1 (by decide) ?_
          exact ihP (kP + 1) (nn + 1) fh16879 th16880 gnm6881 gns6882 gnp6883 _ _ _ (by omega) (by first | assumption | exact Or.inl rfl | exact Or.inr rfl) (And.intro hP hD) hS (lv_sub hl [0, 1, 2, 3] rfl)
        · refine lv_if_eq (tgt := 171) hx hb gX12_many_5.2.2.2.2.2.2.2.2.2 (by decide) (fun _ => ?_) (fun c9 => absurd (by decide) c9)
          refine lv_iconst (v := 0) hx hb gX12_many_6.2.2.1 (by decide) ?_
          refine lv_iadd hx hb gX12_many_6.2.2.2.1 ?_
          refine lv_istore_n (lv' := [(2, .int (nn + 0)), (3, .int (nI kP)), (0, .ref h0), (1, .int x1)]) hx hb gX12_many_6.2.2.2.2.1 rfl hl (by decide) rfl (fun ls hl => ?_)
          refine lv_iinc (v := nI (kP + 1)) (lv' := [(3, .int (nI (kP + 1))), (2, .int (nn + 0)), (0, .ref h0), (1, .int x1)]) hx hb gX12_many_6.2.2.2.2.2.1 hl (k := 1) rfl (nI_1 _) (by decide) rfl (fun ls hl => ?_)
          refine lv_goto (tgt := 147) hx hb gX12_many_6.2.2.2.2.2.2.1 (by decide) ?_
          exact ihP (kP + 1) (nn + 0) fh16879 th16880 gnm6881 gns6882 gnp6883 _ _ _ (by omega) (by first | assumption | exact Or.inl rfl | exact Or.inr rfl) (And.intro hP hD) hS (lv_sub hl [0, 1, 2, 3] rfl)
    exact keyP k9 0 0 mfromHour mtoHour fnm fns fnp _ _ _ (by omega) (by first | assumption | exact Or.inl rfl | exact Or.inr rfl) (And.intro hP hD) hS (lv_sub hl [0, 1, 2, 3] rfl)
  by_cases c_1_6886 : x1 = 10
  · refine lv_tableIn (tgt := 182) hx hb gX12_many_0.2.1 (by rw [c_1_6886]; decide) (by rw [c_1_6886]; decide) (by rw [c_1_6886]; rfl) (by decide) ?_
    refine lv_aload_n hx hb gX12_many_6.2.2.2.2.2.2.2.2.2 rfl (lv_at0 hl) ?_
    refine gf_X12_9 hC rfl hK hP 0 rfl rfl gX12_many_7.1 ?_
    refine lv_bipush (v := 10) hx hb gX12_many_7.2.1 (by decide) ?_
    refine ald hC hK hP 1 rfl (vin (by decide +kernel)) (k := 10) (by decide +kernel) (v := fnw 10) (rfl) gX12_many_7.2.2.1 ?_
    refine toQ hQ0 ?_
    exact RI (v := fnw 10) hC hP hD hS [0, 1, 2, 3, 4] (mfromHour, mtoHour, fnm, fns, fnp) rfl rfl (by decide) (⟨trivial, by first | assumption | exact hM⟩) rfl gX12_many_7.2.2.2.1
  by_cases c_1_6887 : x1 = 11
  · refine lv_tableIn (tgt := 190) hx hb gX12_many_0.2.1 (by rw [c_1_6887]; decide) (by rw [c_1_6887]; decide) (by rw [c_1_6887]; rfl) (by decide) ?_
    refine lv_aload_n hx hb gX12_many_7.2.2.2.2.1 rfl (lv_at0 hl) ?_
    refine gf_X12_9 hC rfl hK hP 0 rfl rfl gX12_many_7.2.2.2.2.2.1 ?_
    refine lv_bipush (v := 11) hx hb gX12_many_7.2.2.2.2.2.2.1 (by decide) ?_
    refine ald hC hK hP 1 rfl (vin (by decide +kernel)) (k := 11) (by decide +kernel) (v := fnw 11) (rfl) gX12_many_7.2.2.2.2.2.2.2.1 ?_
    refine toQ hQ0 ?_
    exact RI (v := fnw 11) hC hP hD hS [0, 1, 2, 3, 4] (mfromHour, mtoHour, fnm, fns, fnp) rfl rfl (by decide) (⟨trivial, by first | assumption | exact hM⟩) rfl gX12_many_7.2.2.2.2.2.2.2.2.1
  by_cases c_1_6888 : x1 = 12
  · refine lv_tableIn (tgt := 198) hx hb gX12_many_0.2.1 (by rw [c_1_6888]; decide) (by rw [c_1_6888]; decide) (by rw [c_1_6888]; rfl) (by decide) ?_
    refine lv_aload_n hx hb gX12_many_7.2.2.2.2.2.2.2.2.2 rfl (lv_at0 hl) ?_
    refine gf_X12_327 hC rfl hK hP 0 rfl rfl gX12_many_8.1 ?_
    refine toQ hQ0 ?_
    exact RI (v := mrowMany) hC hP hD hS [0, 1, 2, 3, 4] (mfromHour, mtoHour, fnm, fns, fnp) rfl rfl (by decide) (⟨trivial, by first | assumption | exact hM⟩) rfl gX12_many_8.2.1
  by_cases c_1_6889 : x1 = 13
  · refine lv_tableIn (tgt := 203) hx hb gX12_many_0.2.1 (by rw [c_1_6889]; decide) (by rw [c_1_6889]; decide) (by rw [c_1_6889]; rfl) (by decide) ?_
    refine lv_aload_n hx hb gX12_many_8.2.2.1 rfl (lv_at0 hl) ?_
    refine gf_X12_206 hC rfl hK hP 0 rfl rfl gX12_many_8.2.2.2.1 ?_
    refine toQ hQ0 ?_
    exact RI (v := mtaped) hC hP hD hS [0, 1, 2, 3, 4] (mfromHour, mtoHour, fnm, fns, fnp) rfl rfl (by decide) (⟨trivial, by first | assumption | exact hM⟩) rfl gX12_many_8.2.2.2.2.1
  by_cases c_1_6890 : x1 = 14
  · refine lv_tableIn (tgt := 208) hx hb gX12_many_0.2.1 (by rw [c_1_6890]; decide) (by rw [c_1_6890]; decide) (by rw [c_1_6890]; rfl) (by decide) ?_
    refine lv_aload_n hx hb gX12_many_8.2.2.2.2.2.1 rfl (lv_at0 hl) ?_
    refine gf_X12_351 hC rfl hK hP 0 rfl rfl gX12_many_8.2.2.2.2.2.2.1 ?_
    refine toQ hQ0 ?_
    exact RI (v := mtraced) hC hP hD hS [0, 1, 2, 3, 4] (mfromHour, mtoHour, fnm, fns, fnp) rfl rfl (by decide) (⟨trivial, by first | assumption | exact hM⟩) rfl gX12_many_8.2.2.2.2.2.2.2.1
  refine lv_tableOut (tgt := 213) hx hb gX12_many_0.2.1 (by have q9 := sw_0_14 (x := x1); simp only [c_1_6864, c_1_6865, c_1_6866, c_1_6867, c_1_6870, c_1_6871, c_1_6872, c_1_6873, c_1_6875, c_1_6876, c_1_6886, c_1_6887, c_1_6888, c_1_6889, c_1_6890, not_false_eq_true, true_implies] at q9; exact q9) (by decide) ?_
  refine lv_iconst (v := (-1)) hx hb gX12_many_8.2.2.2.2.2.2.2.2.1 (by decide) ?_
  refine toQ hQ0 ?_
  exact RI (v := (-1)) hC hP hD hS [0, 1, 2, 3, 4] (mfromHour, mtoHour, fnm, fns, fnp) rfl rfl (by decide) (⟨trivial, by first | assumption | exact hM⟩) rfl gX12_many_8.2.2.2.2.2.2.2.2.2
def K_w_keep (l : Launch) (G : GG) (h0 : Nat) (nw : Nat) (nk : Nat) (mhasKept : Int32) (nt : Nat) (mtaped : Int32) (nr : Nat) (mrowMany : Int32) (mroundOf : Int32) (mroundFrom : Int32) (mouts : Int32) (nm : Nat) (mfromHour : Int32) (mtoHour : Int32) (ns : Nat) (mfrom : Int32) (mto : Int32) (msort : Int32) (misFault : Int32) (mdeep : Int32) (mcoded : Int32) (mlines : Int32) (nl : Nat) (nc : Nat) (nF : Nat) (np : Nat) (ntr : Nat) (nb : Nat) (mbestCost : Int32) (nso : Nat) (nsi : Nat) (nit : Nat) (nsh : Nat) (nsf : Nat) (nss : Nat) (nrc : Nat) (mtraced : Int32) (mdealer : Int32) (mnumber : Int32) (mwhose : Int32) (msize : Int32) (misParted : Int32) (fnw : Nat → Int32) (fnk : Nat → Int32) : Prop := MI l G yX12_keep cX12_keep 2 (some .int) 1 0 0 [.ref h0] [(h0, oX12 nw nk mhasKept nt mtaped nr mrowMany mroundOf mroundFrom mouts nm mfromHour mtoHour ns mfrom mto msort misFault mdeep mcoded mlines nl nc nF np ntr nb mbestCost nso nsi nit nsh nsf nss nrc mtraced mdealer mnumber mwhose msize misParted), (nw, iA G 1662 fnw), (nk, iA G 1662 fnk)] (fun (r : Int32) (u : (Nat → Int32)) => (r = 1) ∧ (NI u ∧ VI u ∧ SCX u (fnw 0) (fnw 1) (fnw 2) (fnw 3) (fnw 4) (fnw 5) (fnw 6) (fnw 8) (fnw 9) (fnw 10) (fnw 11) ∧ AG 1662 fnw u)) (fun u : (Nat → Int32) => [(h0, oX12 nw nk 1 nt mtaped nr mrowMany mroundOf mroundFrom mouts nm mfromHour mtoHour ns mfrom mto msort misFault mdeep mcoded mlines nl nc nF np ntr nb mbestCost nso nsi nit nsh nsf nss nrc mtraced mdealer mnumber mwhose msize misParted), (nw, iA G 1662 fnw), (nk, iA G 1662 u)])
set_option maxHeartbeats 4000000 in
set_option maxRecDepth 100000 in
theorem w_keep (l : Launch) (G : GG) (h0 : Nat) (nw : Nat) (nk : Nat) (mhasKept : Int32) (nt : Nat) (mtaped : Int32) (nr : Nat) (mrowMany : Int32) (mroundOf : Int32) (mroundFrom : Int32) (mouts : Int32) (nm : Nat) (mfromHour : Int32) (mtoHour : Int32) (ns : Nat) (mfrom : Int32) (mto : Int32) (msort : Int32) (misFault : Int32) (mdeep : Int32) (mcoded : Int32) (mlines : Int32) (nl : Nat) (nc : Nat) (nF : Nat) (np : Nat) (ntr : Nat) (nb : Nat) (mbestCost : Int32) (nso : Nat) (nsi : Nat) (nit : Nat) (nsh : Nat) (nsf : Nat) (nss : Nat) (nrc : Nat) (mtraced : Int32) (mdealer : Int32) (mnumber : Int32) (mwhose : Int32) (msize : Int32) (misParted : Int32) (fnw : Nat → Int32) (fnk : Nat → Int32) (hN : NI fnw) (hV : VI fnw) : K_w_keep l G h0 nw nk mhasKept nt mtaped nr mrowMany mroundOf mroundFrom mouts nm mfromHour mtoHour ns mfrom mto msort misFault mdeep mcoded mlines nl nc nF np ntr nb mbestCost nso nsi nit nsh nsf nss nrc mtraced mdealer mnumber mwhose msize misParted fnw fnk := by
  refine MI.start (by decide +kernel) (Nat.le_of_ble_eq_true rfl) ?_
  intro p e s m below meth c A ls hC hK hP hD hS hA hl
  refine absQ (fun Q0 hQ0 => ?_)
  have hl : lv_has ls 2 [(0, .ref h0)] := hl
  refine Kan8 hC (fun hx hb hr hml hB hown hlocks hnm => ?_)
  refine lv_iconst (v := 0) hx hb gX12_keep_0.1 (by decide) ?_
  refine lv_istore_n (lv' := [(1, .int 0), (0, .ref h0)]) hx hb gX12_keep_0.2.1 rfl hl (by decide) rfl (fun ls hl => ?_)
  have keyP : ∀ (nP kP : Nat) (vK : Nat → Int32) (H : Heap) (locs : List Loc) (ls : Array Slot), kP + nP = 1662 → (AG kP fnw vK) → va_PD G A [(h0, oX12 nw nk mhasKept nt mtaped nr mrowMany mroundOf mroundFrom mouts nm mfromHour mtoHour ns mfrom mto msort misFault mdeep mcoded mlines nl nc nF np ntr nb mbestCost nso nsi nit nsh nsf nss nrc mtraced mdealer mnumber mwhose msize misParted), (nw, iA G 1662 fnw), (nk, iA G 1662 vK)] H → va_S A s.heap H locs → lv_has ls 2 [(1, .int (nI kP)), (0, .ref h0)] → W p l e (RM 1 0 0) s m ([.ref h0] : List Value).toArray below meth c H locs 0 0 Q0 (F0 m 2 ls []) := by
    intro nP
    induction nP with
    | zero =>
      intro kP vK H locs ls hkP hag hPD hS hl
      refine Kan2 hPD (fun hP hD => ?_)
      obtain rfl : 1662 = kP := by omega
      have hl : lv_has ls 2 [(1, .int 1662), (0, .ref h0)] := hl
      refine lv_iload_n hx hb gX12_keep_0.2.2.1 rfl (lv_at0 hl) ?_
      refine lv_sipush (v := 1662) hx hb gX12_keep_0.2.2.2.1 (by decide) ?_
      refine lv_icmp_ge (tgt := 27) hx hb gX12_keep_0.2.2.2.2.1 (by decide) (fun _ => ?_) (fun c9 => absurd (by decide) c9)
      refine lv_aload_n hx hb gX12_keep_1.2.2.2.2.2.1 rfl (lv_at1 hl) ?_
      refine lv_iconst (v := 1) hx hb gX12_keep_1.2.2.2.2.2.2.1 (by decide) ?_
      refine pf_X12_383 hC rfl hK hP hD hS 0 (ws' := [(h0, oX12 nw nk 1 nt mtaped nr mrowMany mroundOf mroundFrom mouts nm mfromHour mtoHour ns mfrom mto msort misFault mdeep mcoded mlines nl nc nF np ntr nb mbestCost nso nsi nit nsh nsf nss nrc mtraced mdealer mnumber mwhose msize misParted), (nw, iA G 1662 fnw), (nk, iA G 1662 vK)]) rfl (Nat.le_of_ble_eq_true rfl) rfl (by decide +kernel) (by decide +kernel) gX12_keep_1.2.2.2.2.2.2.2.1 (fun H locs hP hD hS => ?_)
      refine lv_iconst (v := 1) hx hb gX12_keep_1.2.2.2.2.2.2.2.2.1 (by decide) ?_
      refine toQ hQ0 ?_
      exact RI (v := 1) hC hP hD hS [0, 1, 2] vK rfl rfl (by decide) (⟨rfl, ⟨AG.NI hag hN, AG.VI hag hV, AG.SC hag, hag⟩⟩) rfl gX12_keep_1.2.2.2.2.2.2.2.2.2
    | succ nP ihP =>
      intro kP vK H locs ls hkP hag hPD hS hl
      refine Kan2 hPD (fun hP hD => ?_)
      refine lv_iload_n hx hb gX12_keep_0.2.2.1 rfl (lv_at0 hl) ?_
      refine lv_sipush (v := 1662) hx hb gX12_keep_0.2.2.2.1 (by decide) ?_
      refine lv_icmp_ge (tgt := 27) hx hb gX12_keep_0.2.2.2.2.1 (by decide) (fun c9 => absurd c9 (nI_ge (a := kP) (b := 1662) (by omega) (by omega))) (fun _ => ?_)
      refine lv_aload_n hx hb gX12_keep_0.2.2.2.2.2.1 rfl (lv_at1 hl) ?_
      refine gf_X12_13 hC rfl hK hP 0 rfl rfl gX12_keep_0.2.2.2.2.2.2.1 ?_
      refine lv_iload_n hx hb gX12_keep_0.2.2.2.2.2.2.2.1 rfl (lv_at0 hl) ?_
      refine lv_aload_n hx hb gX12_keep_0.2.2.2.2.2.2.2.2.1 rfl (lv_at1 hl) ?_
      refine gf_X12_9 hC rfl hK hP 0 rfl rfl gX12_keep_0.2.2.2.2.2.2.2.2.2 ?_
      refine lv_iload_n hx hb gX12_keep_1.1 rfl (lv_at0 hl) ?_
      refine aldN hC hK hP 1 rfl (k := kP) (by omega) (Nat.le_of_ble_eq_true rfl) (v := fnw kP) rfl gX12_keep_1.2.1 ?_
      refine lv_topi (fun x6891 ex6891 => ?_)
      refine astN hC hK hP hD hS 2 (ws' := [(h0, oX12 nw nk mhasKept nt mtaped nr mrowMany mroundOf mroundFrom mouts nm mfromHour mtoHour ns mfrom mto msort misFault mdeep mcoded mlines nl nc nF np ntr nb mbestCost nso nsi nit nsh nsf nss nrc mtraced mdealer mnumber mwhose msize misParted), (nw, iA G 1662 fnw), (nk, iA G 1662 (upd vK kP x6891))]) rfl (k := kP) (by omega) (Nat.le_of_ble_eq_true rfl) (rfl) gX12_keep_1.2.2.1 (fun H locs hP hD hS => ?_)
      refine lv_iinc (v := nI (kP + 1)) (lv' := [(1, .int (nI (kP + 1))), (0, .ref h0)]) hx hb gX12_keep_1.2.2.2.1 hl (k := 0) rfl (nI_1 _) (by decide) rfl (fun ls hl => ?_)
      refine lv_goto (tgt := 2) hx hb gX12_keep_1.2.2.2.2.1 (by decide) ?_
      exact ihP (kP + 1) (upd vK kP x6891) _ _ _ (by omega) (by first | assumption | exact Or.inl rfl | exact Or.inr rfl | exact AG.zero | exact AG.next (by assumption) (by assumption)) (And.intro hP hD) hS (lv_sub hl [0, 1] rfl)
  exact keyP 1662 0 fnk _ _ _ (by omega) (by first | assumption | exact Or.inl rfl | exact Or.inr rfl | exact AG.zero | exact AG.next (by assumption) (by assumption)) (And.intro hP hD) hS (lv_sub hl [0, 1] rfl)
def K_w_again0 (l : Launch) (G : GG) (h0 : Nat) (nw : Nat) (nk : Nat) (nt : Nat) (mtaped : Int32) (nr : Nat) (mrowMany : Int32) (mroundOf : Int32) (mroundFrom : Int32) (mouts : Int32) (nm : Nat) (mfromHour : Int32) (mtoHour : Int32) (ns : Nat) (mfrom : Int32) (mto : Int32) (msort : Int32) (misFault : Int32) (mdeep : Int32) (mcoded : Int32) (mlines : Int32) (nl : Nat) (nc : Nat) (nF : Nat) (np : Nat) (ntr : Nat) (nb : Nat) (mbestCost : Int32) (nso : Nat) (nsi : Nat) (nit : Nat) (nsh : Nat) (nsf : Nat) (nss : Nat) (nrc : Nat) (mtraced : Int32) (mdealer : Int32) (mnumber : Int32) (mwhose : Int32) (msize : Int32) (misParted : Int32) : Prop := MP l G yX12_again cX12_again 2 (some .int) 1 [.ref h0] [(h0, oX12 nw nk 0 nt mtaped nr mrowMany mroundOf mroundFrom mouts nm mfromHour mtoHour ns mfrom mto msort misFault mdeep mcoded mlines nl nc nF np ntr nb mbestCost nso nsi nit nsh nsf nss nrc mtraced mdealer mnumber mwhose msize misParted)] (fun r : Int32 => r = (-3))
set_option maxHeartbeats 4000000 in
set_option maxRecDepth 100000 in
theorem w_again0 (l : Launch) (G : GG) (h0 : Nat) (nw : Nat) (nk : Nat) (nt : Nat) (mtaped : Int32) (nr : Nat) (mrowMany : Int32) (mroundOf : Int32) (mroundFrom : Int32) (mouts : Int32) (nm : Nat) (mfromHour : Int32) (mtoHour : Int32) (ns : Nat) (mfrom : Int32) (mto : Int32) (msort : Int32) (misFault : Int32) (mdeep : Int32) (mcoded : Int32) (mlines : Int32) (nl : Nat) (nc : Nat) (nF : Nat) (np : Nat) (ntr : Nat) (nb : Nat) (mbestCost : Int32) (nso : Nat) (nsi : Nat) (nit : Nat) (nsh : Nat) (nsf : Nat) (nss : Nat) (nrc : Nat) (mtraced : Int32) (mdealer : Int32) (mnumber : Int32) (mwhose : Int32) (msize : Int32) (misParted : Int32) : K_w_again0 l G h0 nw nk nt mtaped nr mrowMany mroundOf mroundFrom mouts nm mfromHour mtoHour ns mfrom mto msort misFault mdeep mcoded mlines nl nc nF np ntr nb mbestCost nso nsi nit nsh nsf nss nrc mtraced mdealer mnumber mwhose msize misParted := by
  refine MP.start (by decide +kernel) (Nat.le_of_ble_eq_true rfl) ?_
  intro p e s m below meth c ls hC hK hP hD hl
  refine absQ (fun Q0 hQ0 => ?_)
  have hl : lv_has ls 2 [(0, .ref h0)] := hl
  refine Kan8 hC (fun hx hb hr hml hB hown hlocks hnm => ?_)
  refine lv_aload_n hx hb gX12_again_0.1 rfl (lv_at0 hl) ?_
  refine gf_X12_383 hC rfl hK hP 0 rfl rfl gX12_again_0.2.1 ?_
  refine lv_if_ne (tgt := 10) hx hb gX12_again_0.2.2.1 (by decide) (fun c9 => absurd (by decide) c9) (fun _ => ?_)
  refine lv_bipush (v := (-3)) hx hb gX12_again_0.2.2.2.1 (by decide) ?_
  refine toQ hQ0 ?_
  exact RP (v := (-3)) hC (rfl) rfl gX12_again_0.2.2.2.2.1
def K_w_again1 (l : Launch) (G : GG) (h0 : Nat) (nw : Nat) (nk : Nat) (nt : Nat) (mtaped : Int32) (nr : Nat) (mrowMany : Int32) (mroundOf : Int32) (mroundFrom : Int32) (mouts : Int32) (nm : Nat) (mfromHour : Int32) (mtoHour : Int32) (ns : Nat) (mfrom : Int32) (mto : Int32) (msort : Int32) (misFault : Int32) (mdeep : Int32) (mcoded : Int32) (mlines : Int32) (nl : Nat) (nc : Nat) (nF : Nat) (np : Nat) (ntr : Nat) (nb : Nat) (mbestCost : Int32) (nso : Nat) (nsi : Nat) (nit : Nat) (nsh : Nat) (nsf : Nat) (nss : Nat) (nrc : Nat) (mtraced : Int32) (mdealer : Int32) (mnumber : Int32) (mwhose : Int32) (msize : Int32) (misParted : Int32) (fnw : Nat → Int32) (fnk : Nat → Int32) : Prop := MI l G yX12_again cX12_again 2 (some .int) 1 0 0 [.ref h0] [(h0, oX12 nw nk 1 nt mtaped nr mrowMany mroundOf mroundFrom mouts nm mfromHour mtoHour ns mfrom mto msort misFault mdeep mcoded mlines nl nc nF np ntr nb mbestCost nso nsi nit nsh nsf nss nrc mtraced mdealer mnumber mwhose msize misParted), (nw, iA G 1662 fnw), (nk, iA G 1662 fnk)] (fun (r : Int32) (u : (Nat → Int32)) => (r = 1) ∧ (NI u ∧ VI u ∧ SCX u (fnk 0) (fnk 1) (fnk 2) (fnk 3) (fnk 4) (fnk 5) (fnk 6) (fnk 8) (fnk 9) (fnk 10) (fnk 11) ∧ AG 1662 fnk u)) (fun u : (Nat → Int32) => [(h0, oX12 nw nk 1 nt mtaped nr mrowMany mroundOf mroundFrom mouts nm mfromHour mtoHour ns mfrom mto msort misFault mdeep mcoded mlines nl nc nF np ntr nb mbestCost nso nsi nit nsh nsf nss nrc mtraced mdealer mnumber mwhose msize misParted), (nw, iA G 1662 u), (nk, iA G 1662 fnk)])
set_option maxHeartbeats 4000000 in
set_option maxRecDepth 100000 in
theorem w_again1 (l : Launch) (G : GG) (h0 : Nat) (nw : Nat) (nk : Nat) (nt : Nat) (mtaped : Int32) (nr : Nat) (mrowMany : Int32) (mroundOf : Int32) (mroundFrom : Int32) (mouts : Int32) (nm : Nat) (mfromHour : Int32) (mtoHour : Int32) (ns : Nat) (mfrom : Int32) (mto : Int32) (msort : Int32) (misFault : Int32) (mdeep : Int32) (mcoded : Int32) (mlines : Int32) (nl : Nat) (nc : Nat) (nF : Nat) (np : Nat) (ntr : Nat) (nb : Nat) (mbestCost : Int32) (nso : Nat) (nsi : Nat) (nit : Nat) (nsh : Nat) (nsf : Nat) (nss : Nat) (nrc : Nat) (mtraced : Int32) (mdealer : Int32) (mnumber : Int32) (mwhose : Int32) (msize : Int32) (misParted : Int32) (fnw : Nat → Int32) (fnk : Nat → Int32) (hN : NI fnw) (hV : VI fnw) (hNk : NI fnk) (hVk : VI fnk) : K_w_again1 l G h0 nw nk nt mtaped nr mrowMany mroundOf mroundFrom mouts nm mfromHour mtoHour ns mfrom mto msort misFault mdeep mcoded mlines nl nc nF np ntr nb mbestCost nso nsi nit nsh nsf nss nrc mtraced mdealer mnumber mwhose msize misParted fnw fnk := by
  refine MI.start (by decide +kernel) (Nat.le_of_ble_eq_true rfl) ?_
  intro p e s m below meth c A ls hC hK hP hD hS hA hl
  refine absQ (fun Q0 hQ0 => ?_)
  have hl : lv_has ls 2 [(0, .ref h0)] := hl
  refine Kan8 hC (fun hx hb hr hml hB hown hlocks hnm => ?_)
  refine lv_aload_n hx hb gX12_again_0.1 rfl (lv_at0 hl) ?_
  refine gf_X12_383 hC rfl hK hP 0 rfl rfl gX12_again_0.2.1 ?_
  refine lv_if_ne (tgt := 10) hx hb gX12_again_0.2.2.1 (by decide) (fun _ => ?_) (fun c9 => absurd c9 (by decide))
  refine lv_iconst (v := 0) hx hb gX12_again_0.2.2.2.2.2.1 (by decide) ?_
  refine lv_istore_n (lv' := [(1, .int 0), (0, .ref h0)]) hx hb gX12_again_0.2.2.2.2.2.2.1 rfl hl (by decide) rfl (fun ls hl => ?_)
  have keyP : ∀ (nP kP : Nat) (vK : Nat → Int32) (H : Heap) (locs : List Loc) (ls : Array Slot), kP + nP = 1662 → (AG kP fnk vK) → va_PD G A [(h0, oX12 nw nk 1 nt mtaped nr mrowMany mroundOf mroundFrom mouts nm mfromHour mtoHour ns mfrom mto msort misFault mdeep mcoded mlines nl nc nF np ntr nb mbestCost nso nsi nit nsh nsf nss nrc mtraced mdealer mnumber mwhose msize misParted), (nw, iA G 1662 vK), (nk, iA G 1662 fnk)] H → va_S A s.heap H locs → lv_has ls 2 [(1, .int (nI kP)), (0, .ref h0)] → W p l e (RM 1 0 0) s m ([.ref h0] : List Value).toArray below meth c H locs 0 0 Q0 (F0 m 12 ls []) := by
    intro nP
    induction nP with
    | zero =>
      intro kP vK H locs ls hkP hag hPD hS hl
      refine Kan2 hPD (fun hP hD => ?_)
      obtain rfl : 1662 = kP := by omega
      have hl : lv_has ls 2 [(1, .int 1662), (0, .ref h0)] := hl
      refine lv_iload_n hx hb gX12_again_0.2.2.2.2.2.2.2.1 rfl (lv_at0 hl) ?_
      refine lv_sipush (v := 1662) hx hb gX12_again_0.2.2.2.2.2.2.2.2.1 (by decide) ?_
      refine lv_icmp_ge (tgt := 37) hx hb gX12_again_0.2.2.2.2.2.2.2.2.2 (by decide) (fun _ => ?_) (fun c9 => absurd (by decide) c9)
      refine lv_iconst (v := 1) hx hb gX12_again_2.1 (by decide) ?_
      refine toQ hQ0 ?_
      exact RI (v := 1) hC hP hD hS [0, 1, 2] vK rfl rfl (by decide) (⟨rfl, ⟨AG.NI hag hNk, AG.VI hag hVk, AG.SC hag, hag⟩⟩) rfl gX12_again_2.2
    | succ nP ihP =>
      intro kP vK H locs ls hkP hag hPD hS hl
      refine Kan2 hPD (fun hP hD => ?_)
      refine lv_iload_n hx hb gX12_again_0.2.2.2.2.2.2.2.1 rfl (lv_at0 hl) ?_
      refine lv_sipush (v := 1662) hx hb gX12_again_0.2.2.2.2.2.2.2.2.1 (by decide) ?_
      refine lv_icmp_ge (tgt := 37) hx hb gX12_again_0.2.2.2.2.2.2.2.2.2 (by decide) (fun c9 => absurd c9 (nI_ge (a := kP) (b := 1662) (by omega) (by omega))) (fun _ => ?_)
      refine lv_aload_n hx hb gX12_again_1.1 rfl (lv_at1 hl) ?_
      refine gf_X12_9 hC rfl hK hP 0 rfl rfl gX12_again_1.2.1 ?_
      refine lv_iload_n hx hb gX12_again_1.2.2.1 rfl (lv_at0 hl) ?_
      refine lv_aload_n hx hb gX12_again_1.2.2.2.1 rfl (lv_at1 hl) ?_
      refine gf_X12_13 hC rfl hK hP 0 rfl rfl gX12_again_1.2.2.2.2.1 ?_
      refine lv_iload_n hx hb gX12_again_1.2.2.2.2.2.1 rfl (lv_at0 hl) ?_
      refine aldN hC hK hP 2 rfl (k := kP) (by omega) (Nat.le_of_ble_eq_true rfl) (v := fnk kP) rfl gX12_again_1.2.2.2.2.2.2.1 ?_
      refine lv_topi (fun x6892 ex6892 => ?_)
      refine astN hC hK hP hD hS 1 (ws' := [(h0, oX12 nw nk 1 nt mtaped nr mrowMany mroundOf mroundFrom mouts nm mfromHour mtoHour ns mfrom mto msort misFault mdeep mcoded mlines nl nc nF np ntr nb mbestCost nso nsi nit nsh nsf nss nrc mtraced mdealer mnumber mwhose msize misParted), (nw, iA G 1662 (upd vK kP x6892)), (nk, iA G 1662 fnk)]) rfl (k := kP) (by omega) (Nat.le_of_ble_eq_true rfl) (rfl) gX12_again_1.2.2.2.2.2.2.2.1 (fun H locs hP hD hS => ?_)
      refine lv_iinc (v := nI (kP + 1)) (lv' := [(1, .int (nI (kP + 1))), (0, .ref h0)]) hx hb gX12_again_1.2.2.2.2.2.2.2.2.1 hl (k := 0) rfl (nI_1 _) (by decide) rfl (fun ls hl => ?_)
      refine lv_goto (tgt := 12) hx hb gX12_again_1.2.2.2.2.2.2.2.2.2 (by decide) ?_
      exact ihP (kP + 1) (upd vK kP x6892) _ _ _ (by omega) (by first | assumption | exact Or.inl rfl | exact Or.inr rfl | exact AG.zero | exact AG.next (by assumption) (by assumption)) (And.intro hP hD) hS (lv_sub hl [0, 1] rfl)
  exact keyP 1662 0 fnw _ _ _ (by omega) (by first | assumption | exact Or.inl rfl | exact Or.inr rfl | exact AG.zero | exact AG.next (by assumption) (by assumption)) (And.intro hP hD) hS (lv_sub hl [0, 1] rfl)
