section WR
variable {p : Program} {l : Launch} {e : Env} {R : Room} {s : State} {m : MethodId} {args : Array Value} {below : List Frame} {meth : Method} {c : Code} {H : Heap} {locs : List Loc} {cells slots : Nat} {Q : State → Prop}
variable {pc : Nat} {ls : Array Slot} {rest : List Value} {G : GG} {ws : va_W} {A : Nat → Prop} {y0 : MethodName} {b0 : ByteArray} {mL0 : Nat} {rt0 : Option FieldType} {a : Nat} {H0 : Heap}
end WR
/-- what a kind tells of its shelf -/
def KO1 (x : Int32) (y : Int32) (k : Nat) (B : Nat) : Prop := x = nI k ∧ ∃ j, j < B ∧ y = nI j
theorem KO1.mk {x x2 y y2 : Int32} {k B kk : Nat} (hB : kk ≤ B) (hk : kk < 2 ^ 31) (ex : x2 = x) (ey : y2 = y) (c : x2 = nI k) (h : Hs y2 kk) : KO1 x y k B := by
  obtain ⟨j, hj, e⟩ := Hs_nat hk h
  exact ⟨ex.symm.trans c, j, by omega, ey.symm.trans e⟩
/-- the first n alike -/
def AG (n : Nat) (f g : Nat → Int32) : Prop := ∀ i, i < n → g i = f i
theorem AG.zero {f g : Nat → Int32} : AG 0 f g := fun i h => absurd h (Nat.not_lt_zero i)
theorem AG.next {n : Nat} {f g : Nat → Int32} {x : Int32} (h : AG n f g) (hx : x = f n) : AG (n + 1) f (upd g n x) := by
  intro i hi
  unfold upd
  by_cases c : i = n
  · rw [if_pos c, hx, c]
  · rw [if_neg c]; exact h i (by omega)
theorem AG.SC {f g : Nat → Int32} (h : AG 1662 f g) : SCX g (f 0) (f 1) (f 2) (f 3) (f 4) (f 5) (f 6) (f 8) (f 9) (f 10) (f 11) := SCX.rf.ag fun i h1 _ => h i (by omega)
theorem AG.NI {f g : Nat → Int32} (h : AG 1662 f g) (hN : NI f) : NI g := by
  intro i
  by_cases c : i < 1662
  · rw [h i c]; exact hN i
  · rw [bnd_end (by omega)]
    exact ⟨ti_lo _, ti_hi _⟩
theorem AG.VI {f g : Nat → Int32} (h : AG 1662 f g) (hV : VI f) : VI g := by
  intro v hv
  exact VOK.ext (fun j hj => (h _ (by omega)).symm) (hV v hv)
section WR
variable {p : Program} {l : Launch} {e : Env} {R : Room} {s : State} {m : MethodId} {args : Array Value} {below : List Frame} {meth : Method} {c : Code} {H : Heap} {locs : List Loc} {cells slots : Nat} {Q : State → Prop}
variable {pc : Nat} {ls : Array Slot} {rest : List Value} {G : GG} {ws : va_W} {A : Nat → Prop} {y0 : MethodName} {b0 : ByteArray} {mL0 : Nat} {rt0 : Option FieldType} {a : Nat} {H0 : Heap}
theorem gX12_kindOn_0 : (decode cX12_kindOn 0 = .ok (.aload_n 0, 1)) ∧ (decode cX12_kindOn 1 = .ok (.getfield 75, 3)) ∧ (decode cX12_kindOn 4 = .ok (.iload_n 1, 1)) ∧ (decode cX12_kindOn 5 = .ok (.iaload, 1)) ∧ (decode cX12_kindOn 6 = .ok (.istore_n 2, 1)) ∧ (decode cX12_kindOn 7 = .ok (.aload_n 0, 1)) ∧ (decode cX12_kindOn 8 = .ok (.getfield 72, 3)) ∧ (decode cX12_kindOn 11 = .ok (.iload_n 1, 1)) ∧ (decode cX12_kindOn 12 = .ok (.iaload, 1)) ∧ (decode cX12_kindOn 13 = .ok (.tableswitch 145 1 3 #[27, 98, 128], 27)) := by decide +kernel
theorem gX12_kindOn_1 : (decode cX12_kindOn 40 = .ok (.aload_n 0, 1)) ∧ (decode cX12_kindOn 41 = .ok (.iload_n 2, 1)) ∧ (decode cX12_kindOn 42 = .ok (.iconst 5, 1)) ∧ (decode cX12_kindOn 43 = .ok (.invokevirtual 120, 3)) ∧ (decode cX12_kindOn 46 = .ok (.ifCond .eq 27, 3)) ∧ (decode cX12_kindOn 49 = .ok (.aload_n 0, 1)) ∧ (decode cX12_kindOn 50 = .ok (.iload_n 2, 1)) ∧ (decode cX12_kindOn 51 = .ok (.iconst 1, 1)) ∧ (decode cX12_kindOn 52 = .ok (.invokevirtual 88, 3)) ∧ (decode cX12_kindOn 55 = .ok (.iconst 1, 1)) := by decide +kernel
theorem gX12_kindOn_2 : (decode cX12_kindOn 56 = .ok (.aload_n 0, 1)) ∧ (decode cX12_kindOn 57 = .ok (.iload_n 2, 1)) ∧ (decode cX12_kindOn 58 = .ok (.iconst 0, 1)) ∧ (decode cX12_kindOn 59 = .ok (.invokevirtual 88, 3)) ∧ (decode cX12_kindOn 62 = .ok (.ishl, 1)) ∧ (decode cX12_kindOn 63 = .ok (.iconst (-1), 1)) ∧ (decode cX12_kindOn 64 = .ok (.ixor, 1)) ∧ (decode cX12_kindOn 65 = .ok (.iand, 1)) ∧ (decode cX12_kindOn 66 = .ok (.ifCond .eq 7, 3)) ∧ (decode cX12_kindOn 69 = .ok (.iconst 1, 1)) := by decide +kernel
theorem gX12_kindOn_3 : (decode cX12_kindOn 70 = .ok (.goto 4, 3)) ∧ (decode cX12_kindOn 73 = .ok (.iconst 0, 1)) ∧ (decode cX12_kindOn 74 = .ok (.istore_n 3, 1)) ∧ (decode cX12_kindOn 75 = .ok (.aload_n 0, 1)) ∧ (decode cX12_kindOn 76 = .ok (.iload_n 2, 1)) ∧ (decode cX12_kindOn 77 = .ok (.iconst 5, 1)) ∧ (decode cX12_kindOn 78 = .ok (.invokevirtual 120, 3)) ∧ (decode cX12_kindOn 81 = .ok (.ifCond .ne 7, 3)) ∧ (decode cX12_kindOn 84 = .ok (.iconst (-1), 1)) ∧ (decode cX12_kindOn 85 = .ok (.goto 25, 3)) := by decide +kernel
theorem gX12_kindOn_4 : (decode cX12_kindOn 88 = .ok (.iload_n 3, 1)) ∧ (decode cX12_kindOn 89 = .ok (.ifCond .ne 7, 3)) ∧ (decode cX12_kindOn 92 = .ok (.iconst 2, 1)) ∧ (decode cX12_kindOn 93 = .ok (.goto 17, 3)) ∧ (decode cX12_kindOn 96 = .ok (.aload_n 0, 1)) ∧ (decode cX12_kindOn 97 = .ok (.iload_n 2, 1)) ∧ (decode cX12_kindOn 98 = .ok (.iconst 3, 1)) ∧ (decode cX12_kindOn 99 = .ok (.invokevirtual 88, 3)) ∧ (decode cX12_kindOn 102 = .ok (.ifCond .le 7, 3)) ∧ (decode cX12_kindOn 105 = .ok (.iconst 3, 1)) := by decide +kernel
theorem gX12_kindOn_5 : (decode cX12_kindOn 106 = .ok (.goto 4, 3)) ∧ (decode cX12_kindOn 109 = .ok (.iconst 1, 1)) ∧ (decode cX12_kindOn 110 = .ok (.ireturn, 1)) ∧ (decode cX12_kindOn 111 = .ok (.aload_n 0, 1)) ∧ (decode cX12_kindOn 112 = .ok (.iload_n 2, 1)) ∧ (decode cX12_kindOn 113 = .ok (.bipush 8, 2)) ∧ (decode cX12_kindOn 115 = .ok (.invokevirtual 120, 3)) ∧ (decode cX12_kindOn 118 = .ok (.ifCond .ne 7, 3)) ∧ (decode cX12_kindOn 121 = .ok (.iconst (-1), 1)) ∧ (decode cX12_kindOn 122 = .ok (.goto 18, 3)) := by decide +kernel
theorem gX12_kindOn_6 : (decode cX12_kindOn 125 = .ok (.aload_n 0, 1)) ∧ (decode cX12_kindOn 126 = .ok (.iload_n 2, 1)) ∧ (decode cX12_kindOn 127 = .ok (.bipush 6, 2)) ∧ (decode cX12_kindOn 129 = .ok (.invokevirtual 114, 3)) ∧ (decode cX12_kindOn 132 = .ok (.ifCond .ge 7, 3)) ∧ (decode cX12_kindOn 135 = .ok (.iconst 5, 1)) ∧ (decode cX12_kindOn 136 = .ok (.goto 4, 3)) ∧ (decode cX12_kindOn 139 = .ok (.iconst 4, 1)) ∧ (decode cX12_kindOn 140 = .ok (.ireturn, 1)) ∧ (decode cX12_kindOn 141 = .ok (.aload_n 0, 1)) := by decide +kernel
theorem gX12_kindOn_7 : (decode cX12_kindOn 142 = .ok (.iload_n 2, 1)) ∧ (decode cX12_kindOn 143 = .ok (.bipush 9, 2)) ∧ (decode cX12_kindOn 145 = .ok (.invokevirtual 120, 3)) ∧ (decode cX12_kindOn 148 = .ok (.ifCond .eq 8, 3)) ∧ (decode cX12_kindOn 151 = .ok (.bipush 6, 2)) ∧ (decode cX12_kindOn 153 = .ok (.goto 4, 3)) ∧ (decode cX12_kindOn 156 = .ok (.iconst (-1), 1)) ∧ (decode cX12_kindOn 157 = .ok (.ireturn, 1)) ∧ (decode cX12_kindOn 158 = .ok (.iconst (-1), 1)) ∧ (decode cX12_kindOn 159 = .ok (.ireturn, 1)) := by decide +kernel
theorem sw_1_3 {x : Int32} : ¬ x = 1 → ¬ x = 2 → ¬ x = 3 →  (x.toInt < 1 ∨ 3 < x.toInt) := by
  intros
  simp only [← Int32.toInt_inj] at *
  have hk : ∀ k : Int, x.toInt = k → x.toInt = k := fun _ h => h
  have k1 : (1 : Int32).toInt = 1 := by decide
  have k2 : (2 : Int32).toInt = 2 := by decide
  have k3 : (3 : Int32).toInt = 3 := by decide
  omega
theorem gX12_above_0 : (decode cX12_above 0 = .ok (.iload_n 0, 1)) ∧ (decode cX12_above 1 = .ok (.iconst 3, 1)) ∧ (decode cX12_above 2 = .ok (.if_icmp .ne 7, 3)) ∧ (decode cX12_above 5 = .ok (.iconst 1, 1)) ∧ (decode cX12_above 6 = .ok (.goto 21, 3)) ∧ (decode cX12_above 9 = .ok (.iload_n 0, 1)) ∧ (decode cX12_above 10 = .ok (.iconst 5, 1)) ∧ (decode cX12_above 11 = .ok (.if_icmp .ne 7, 3)) ∧ (decode cX12_above 14 = .ok (.iconst 4, 1)) ∧ (decode cX12_above 15 = .ok (.goto 12, 3)) := by decide +kernel
theorem gX12_above_1 : (decode cX12_above 18 = .ok (.iload_n 0, 1)) ∧ (decode cX12_above 19 = .ok (.ifCond .ne 7, 3)) ∧ (decode cX12_above 22 = .ok (.iconst (-1), 1)) ∧ (decode cX12_above 23 = .ok (.goto 4, 3)) ∧ (decode cX12_above 26 = .ok (.iconst 0, 1)) ∧ (decode cX12_above 27 = .ok (.ireturn, 1)) := by decide +kernel
theorem gX12_hasOwn_0 : (decode cX12_hasOwn 0 = .ok (.iload_n 0, 1)) ∧ (decode cX12_hasOwn 1 = .ok (.tableswitch 94 0 5 #[39, 41, 52, 63, 79, 79], 39)) ∧ (decode cX12_hasOwn 40 = .ok (.iconst 1, 1)) ∧ (decode cX12_hasOwn 41 = .ok (.ireturn, 1)) ∧ (decode cX12_hasOwn 42 = .ok (.iload_n 1, 1)) ∧ (decode cX12_hasOwn 43 = .ok (.iconst 1, 1)) ∧ (decode cX12_hasOwn 44 = .ok (.if_icmp .ne 7, 3)) ∧ (decode cX12_hasOwn 47 = .ok (.iconst 1, 1)) ∧ (decode cX12_hasOwn 48 = .ok (.goto 4, 3)) ∧ (decode cX12_hasOwn 51 = .ok (.iconst 0, 1)) := by decide +kernel
theorem gX12_hasOwn_1 : (decode cX12_hasOwn 52 = .ok (.ireturn, 1)) ∧ (decode cX12_hasOwn 53 = .ok (.iload_n 1, 1)) ∧ (decode cX12_hasOwn 54 = .ok (.iconst 2, 1)) ∧ (decode cX12_hasOwn 55 = .ok (.if_icmp .ne 7, 3)) ∧ (decode cX12_hasOwn 58 = .ok (.iconst 1, 1)) ∧ (decode cX12_hasOwn 59 = .ok (.goto 4, 3)) ∧ (decode cX12_hasOwn 62 = .ok (.iconst 0, 1)) ∧ (decode cX12_hasOwn 63 = .ok (.ireturn, 1)) ∧ (decode cX12_hasOwn 64 = .ok (.iload_n 1, 1)) ∧ (decode cX12_hasOwn 65 = .ok (.iconst 1, 1)) := by decide +kernel
theorem gX12_hasOwn_2 : (decode cX12_hasOwn 66 = .ok (.if_icmp .eq 8, 3)) ∧ (decode cX12_hasOwn 69 = .ok (.iload_n 1, 1)) ∧ (decode cX12_hasOwn 70 = .ok (.iconst 3, 1)) ∧ (decode cX12_hasOwn 71 = .ok (.if_icmp .ne 7, 3)) ∧ (decode cX12_hasOwn 74 = .ok (.iconst 1, 1)) ∧ (decode cX12_hasOwn 75 = .ok (.goto 4, 3)) ∧ (decode cX12_hasOwn 78 = .ok (.iconst 0, 1)) ∧ (decode cX12_hasOwn 79 = .ok (.ireturn, 1)) ∧ (decode cX12_hasOwn 80 = .ok (.iload_n 1, 1)) ∧ (decode cX12_hasOwn 81 = .ok (.ifCond .eq 8, 3)) := by decide +kernel
theorem gX12_hasOwn_3 : (decode cX12_hasOwn 84 = .ok (.iload_n 1, 1)) ∧ (decode cX12_hasOwn 85 = .ok (.iconst 2, 1)) ∧ (decode cX12_hasOwn 86 = .ok (.if_icmp .ne 7, 3)) ∧ (decode cX12_hasOwn 89 = .ok (.iconst 1, 1)) ∧ (decode cX12_hasOwn 90 = .ok (.goto 4, 3)) ∧ (decode cX12_hasOwn 93 = .ok (.iconst 0, 1)) ∧ (decode cX12_hasOwn 94 = .ok (.ireturn, 1)) ∧ (decode cX12_hasOwn 95 = .ok (.iload_n 1, 1)) ∧ (decode cX12_hasOwn 96 = .ok (.iconst 3, 1)) ∧ (decode cX12_hasOwn 97 = .ok (.if_icmp .ne 7, 3)) := by decide +kernel
theorem gX12_hasOwn_4 : (decode cX12_hasOwn 100 = .ok (.iconst 1, 1)) ∧ (decode cX12_hasOwn 101 = .ok (.goto 4, 3)) ∧ (decode cX12_hasOwn 104 = .ok (.iconst 0, 1)) ∧ (decode cX12_hasOwn 105 = .ok (.ireturn, 1)) := by decide +kernel
end WR
/-- the reference's word for the kind of what a shelf holds -/
noncomputable def KOM (s o : Int32) (kp ks kf : Nat) (gp gs : Nat → Int32) : Int32 := ifc (s = 1) (ifc (Hs o kp) (nI (PKn (gp (o.toNatClampNeg * 6 + 1)) (gp (o.toNatClampNeg * 6 + 0)) (gp (o.toNatClampNeg * 6 + 3)))) (-1)) (ifc (s = 2) (ifc (Hs o ks) (nI (SKn (gs (o.toNatClampNeg * 8 + 6)))) (-1)) (ifc (s = 3) (ifc (Hs o kf) 6 (-1)) (-1)))
theorem wi_ten {x : Int32} : Wi (x - 10) 0 4 ↔ Wi x 10 14 := by
  constructor
  · intro h
    obtain ⟨j, hj, e⟩ := Wi_nat (N := 4) (by decide) h
    have h1 : x - 10 + 10 = x := by rw [Int32.sub_add_cancel]
    rw [e] at h1
    have e2 : x = nI (j + 10) := h1.symm.trans (nI_add j 10)
    rw [e2, wi_lit (a := 10) (b := 14) (by omega) (by decide) (by decide)]
    omega
  · intro h
    have h0 : ¬ x < 0 := fun h9 => h.1 (by
      rw [Int32.lt_iff_toInt_lt] at h9 ⊢
      have e0 : (0 : Int32).toInt = 0 := by decide
      have e10 : (10 : Int32).toInt = 10 := by decide
      omega)
    obtain ⟨n, hn, rfl⟩ := nI_of h0
    rw [wi_lit (a := 10) (b := 14) hn (by decide) (by decide)] at h
    have e2 : nI n - 10 = nI (n - 10) := pk_sub (b := 10) (by omega)
    rw [e2, wi_lit (a := 0) (b := 4) (by omega) (by decide) (by decide)]
    omega
section WR
variable {p : Program} {l : Launch} {e : Env} {R : Room} {s : State} {m : MethodId} {args : Array Value} {below : List Frame} {meth : Method} {c : Code} {H : Heap} {locs : List Loc} {cells slots : Nat} {Q : State → Prop}
variable {pc : Nat} {ls : Array Slot} {rest : List Value} {G : GG} {ws : va_W} {A : Nat → Prop} {y0 : MethodName} {b0 : ByteArray} {mL0 : Nat} {rt0 : Option FieldType} {a : Nat} {H0 : Heap}
theorem gX12_taken_0 : (decode cX12_taken 0 = .ok (.iload_n 1, 1)) ∧ (decode cX12_taken 1 = .ok (.invokestatic 336, 3)) ∧ (decode cX12_taken 4 = .ok (.ifCond .eq 24, 3)) ∧ (decode cX12_taken 7 = .ok (.iload_n 2, 1)) ∧ (decode cX12_taken 8 = .ok (.iconst 0, 1)) ∧ (decode cX12_taken 9 = .ok (.bipush 6, 2)) ∧ (decode cX12_taken 11 = .ok (.invokestatic 84, 3)) ∧ (decode cX12_taken 14 = .ok (.ifCond .ne 16, 3)) ∧ (decode cX12_taken 17 = .ok (.iload_n 2, 1)) ∧ (decode cX12_taken 18 = .ok (.bipush 10, 2)) := by decide +kernel
theorem gX12_taken_1 : (decode cX12_taken 20 = .ok (.bipush 14, 2)) ∧ (decode cX12_taken 22 = .ok (.invokestatic 84, 3)) ∧ (decode cX12_taken 25 = .ok (.ifCond .ne 5, 3)) ∧ (decode cX12_taken 28 = .ok (.iconst (-1), 1)) ∧ (decode cX12_taken 29 = .ok (.ireturn, 1)) ∧ (decode cX12_taken 30 = .ok (.aload_n 0, 1)) ∧ (decode cX12_taken 31 = .ok (.getfield 72, 3)) ∧ (decode cX12_taken 34 = .ok (.iload_n 1, 1)) ∧ (decode cX12_taken 35 = .ok (.iaload, 1)) ∧ (decode cX12_taken 36 = .ok (.iconst 4, 1)) := by decide +kernel
theorem gX12_taken_2 : (decode cX12_taken 37 = .ok (.if_icmp .ne 28, 3)) ∧ (decode cX12_taken 40 = .ok (.iload_n 2, 1)) ∧ (decode cX12_taken 41 = .ok (.bipush 10, 2)) ∧ (decode cX12_taken 43 = .ok (.isub, 1)) ∧ (decode cX12_taken 44 = .ok (.aload_n 0, 1)) ∧ (decode cX12_taken 45 = .ok (.getfield 75, 3)) ∧ (decode cX12_taken 48 = .ok (.iload_n 1, 1)) ∧ (decode cX12_taken 49 = .ok (.iaload, 1)) ∧ (decode cX12_taken 50 = .ok (.if_icmp .ne 12, 3)) ∧ (decode cX12_taken 53 = .ok (.aload_n 0, 1)) := by decide +kernel
theorem gX12_taken_3 : (decode cX12_taken 54 = .ok (.getfield 78, 3)) ∧ (decode cX12_taken 57 = .ok (.iload_n 1, 1)) ∧ (decode cX12_taken 58 = .ok (.iaload, 1)) ∧ (decode cX12_taken 59 = .ok (.goto 5, 3)) ∧ (decode cX12_taken 62 = .ok (.bipush (-13), 2)) ∧ (decode cX12_taken 64 = .ok (.ireturn, 1)) ∧ (decode cX12_taken 65 = .ok (.aload_n 0, 1)) ∧ (decode cX12_taken 66 = .ok (.iload_n 1, 1)) ∧ (decode cX12_taken 67 = .ok (.invokevirtual 345, 3)) ∧ (decode cX12_taken 70 = .ok (.istore_n 3, 1)) := by decide +kernel
theorem m_1387 : Cond.code yX12_kindOn cX12_kindOn 4 (some .int) ∈ BW := iB_BW74 _ (List.mem_of_getElem? (i := 3) rfl)
theorem m_1385 : Cond.methodLink RX12 345 yX12_kindOn ∈ BW := iB_BW74 _ (List.mem_of_getElem? (i := 1) rfl)
theorem m_1386 : Cond.instanceMethod yX12_kindOn ∈ BW := iB_BW74 _ (List.mem_of_getElem? (i := 2) rfl)
theorem m_97 : Cond.selects RX12 yX12_kindOn yX12_kindOn ∈ BW := iB_BW4 _ (List.mem_of_getElem? (i := 17) rfl)
theorem si_X12_345 : SV RX12 RX12 345 yX12_kindOn cX12_kindOn 4 (some .int) 1 := ⟨⟨m_1385, m_1386, m_97, m_115, m_1387⟩, rfl, nK_RX12.1, nK_RX12.2, pd_7⟩
theorem gX12_taken_4 : (decode cX12_taken 71 = .ok (.iload_n 3, 1)) ∧ (decode cX12_taken 72 = .ok (.ifCond .ge 6, 3)) ∧ (decode cX12_taken 75 = .ok (.bipush (-11), 2)) ∧ (decode cX12_taken 77 = .ok (.ireturn, 1)) ∧ (decode cX12_taken 78 = .ok (.iload_n 3, 1)) ∧ (decode cX12_taken 79 = .ok (.ifCond .lt 16, 3)) ∧ (decode cX12_taken 82 = .ok (.iload_n 3, 1)) ∧ (decode cX12_taken 83 = .ok (.iload_n 2, 1)) ∧ (decode cX12_taken 84 = .ok (.if_icmp .eq 11, 3)) ∧ (decode cX12_taken 87 = .ok (.iload_n 3, 1)) := by decide +kernel
theorem gX12_taken_5 : (decode cX12_taken 88 = .ok (.invokestatic 348, 3)) ∧ (decode cX12_taken 91 = .ok (.istore_n 3, 1)) ∧ (decode cX12_taken 92 = .ok (.goto (-14), 3)) ∧ (decode cX12_taken 95 = .ok (.iload_n 3, 1)) ∧ (decode cX12_taken 96 = .ok (.iload_n 2, 1)) ∧ (decode cX12_taken 97 = .ok (.if_icmp .ne 12, 3)) ∧ (decode cX12_taken 100 = .ok (.aload_n 0, 1)) ∧ (decode cX12_taken 101 = .ok (.getfield 75, 3)) ∧ (decode cX12_taken 104 = .ok (.iload_n 1, 1)) ∧ (decode cX12_taken 105 = .ok (.iaload, 1)) := by decide +kernel
theorem gX12_taken_6 : (decode cX12_taken 106 = .ok (.goto 5, 3)) ∧ (decode cX12_taken 109 = .ok (.bipush (-13), 2)) ∧ (decode cX12_taken 111 = .ok (.ireturn, 1)) := by decide +kernel
theorem m_1390 : Cond.code yX12_above cX12_above 1 (some .int) ∈ BW := iB_BW74 _ (List.mem_of_getElem? (i := 6) rfl)
theorem m_1388 : Cond.methodLink RX12 348 yX12_above ∈ BW := iB_BW74 _ (List.mem_of_getElem? (i := 4) rfl)
theorem m_1389 : Cond.static yX12_above ∈ BW := iB_BW74 _ (List.mem_of_getElem? (i := 5) rfl)
theorem si_X12_348 : SS RX12 348 yX12_above cX12_above 1 (some .int) 1 := ⟨⟨m_1388, m_1389, m_115, m_1390⟩, ⟨nK_RX12.1, nK_RX12.2, pd_7⟩⟩
end WR
theorem TK.cg {x1 x2 : Int32} {hw hn ht sh sf ss fp gp fs gs : Nat → Int32} {kp ks kf : Nat} (h : SLR hw hn ht sh sf ss) (hp : ∀ i, i < 72 → gp i = fp i) (hs : ∀ i, i < 128 → gs i = fs i) (hkp : kp ≤ 12) (hks : ks ≤ 16) : ifc (Wi x1 0 3) (ifc (Wi x2 0 6 ∨ Wi (x2 - 10) 0 4) (ifc (HLD (hw x1.toNatClampNeg) (hn x1.toNatClampNeg) kp ks kf = 4) (-11) (ifc (hw x1.toNatClampNeg = 3) (ifc (ht x1.toNatClampNeg = x2 - 10) (hn x1.toNatClampNeg) (-13)) (ifc (UNl (KNn (hw x1.toNatClampNeg) (hn x1.toNatClampNeg).toNatClampNeg fp fs) x2) (hn x1.toNatClampNeg) (-13)))) (-1)) (-1) = ifc (Wi x1 0 3) (ifc (Wi x2 0 6 ∨ Wi x2 10 14) (ifc (sh x1.toNatClampNeg = 4) (ifc (x2 - 10 = sf x1.toNatClampNeg) (ss x1.toNatClampNeg) (-13)) (ifc (KOM (sh x1.toNatClampNeg) (sf x1.toNatClampNeg) kp ks kf gp gs < 0) (-11) (ifc (UNl (KOM (sh x1.toNatClampNeg) (sf x1.toNatClampNeg) kp ks kf gp gs).toNatClampNeg x2) (sf x1.toNatClampNeg) (-13)))) (-1)) (-1) := by
  by_cases c1 : Wi x1 0 3
  · rw [ifc_t c1, ifc_t c1]
    obtain ⟨j, hj, rfl⟩ := Wi3 c1
    rw [nI_clamp (n := j) (by omega)]
    have hc : (Wi x2 0 6 ∨ Wi (x2 - 10) 0 4) = (Wi x2 0 6 ∨ Wi x2 10 14) := by rw [propext wi_ten]
    rw [hc]
    refine ifc_cg fun _ => ?_
    have n34 : ¬ (3 : Int32) = 4 := by decide
    rcases h j hj with ⟨a1, a2⟩ | ⟨a1, a2, a3⟩ | ⟨a1, a2, a3⟩ | ⟨a1, a2, a3⟩ | ⟨a1, a2, a3, a4, a5⟩
    · have e1 : HLD 4 (hn j) kp ks kf = 4 := by unfold HLD; rw [ifc_f (q := (4 : Int32) = 0) (by decide), ifc_f (q := (4 : Int32) = 1) (by decide), ifc_f (q := (4 : Int32) = 2) (by decide)]
      have e2 : KOM 0 (sf j) kp ks kf gp gs = (-1) := by unfold KOM; rw [ifc_f (q := (0 : Int32) = 1) (by decide), ifc_f (q := (0 : Int32) = 2) (by decide), ifc_f (q := (0 : Int32) = 3) (by decide)]
      rw [a1, a2, e1, e2, ifc_t (q := (4 : Int32) = 4) rfl, ifc_f (q := (0 : Int32) = 4) (by decide), ifc_t (q := (-1 : Int32) < 0) (by decide)]
    · have e1 : HLD 0 (sf j) kp ks kf = ifc (Hs (sf j) kp) 0 4 := by unfold HLD; rw [ifc_t (q := (0 : Int32) = 0) rfl]
      have e2 : KOM 1 (sf j) kp ks kf gp gs = ifc (Hs (sf j) kp) (nI (PKn (gp ((sf j).toNatClampNeg * 6 + 1)) (gp ((sf j).toNatClampNeg * 6 + 0)) (gp ((sf j).toNatClampNeg * 6 + 3)))) (-1) := by unfold KOM; rw [ifc_t (q := (1 : Int32) = 1) rfl]
      rw [a1, a2, a3, ifc_f (q := (1 : Int32) = 4) (by decide), e1, e2]
      by_cases c2 : Hs (sf j) kp
      · have e3 : KNn 0 (sf j).toNatClampNeg fp fs = PKn (gp ((sf j).toNatClampNeg * 6 + 1)) (gp ((sf j).toNatClampNeg * 6 + 0)) (gp ((sf j).toNatClampNeg * 6 + 3)) := by
          have hb := Hs_at (by omega) c2
          unfold KNn
          rw [ifn_t (q := (0 : Int32) = 0) rfl, hp ((sf j).toNatClampNeg * 6 + 1) (by omega), hp ((sf j).toNatClampNeg * 6 + 0) (by omega), hp ((sf j).toNatClampNeg * 6 + 3) (by omega)]
        have hl : PKn (gp ((sf j).toNatClampNeg * 6 + 1)) (gp ((sf j).toNatClampNeg * 6 + 0)) (gp ((sf j).toNatClampNeg * 6 + 3)) < 7 := PKn.lt
        rw [ifc_t c2, ifc_t c2, ifc_f (q := (0 : Int32) = 4) (by decide), ifc_f (q := (0 : Int32) = 3) (by decide), e3, ifc_f (q := nI (PKn (gp ((sf j).toNatClampNeg * 6 + 1)) (gp ((sf j).toNatClampNeg * 6 + 0)) (gp ((sf j).toNatClampNeg * 6 + 3))) < 0) (nI_nn (by omega)), nI_clamp (n := PKn (gp ((sf j).toNatClampNeg * 6 + 1)) (gp ((sf j).toNatClampNeg * 6 + 0)) (gp ((sf j).toNatClampNeg * 6 + 3))) (by omega)]
      · rw [ifc_f c2, ifc_f c2, ifc_t (q := (4 : Int32) = 4) rfl, ifc_t (q := (-1 : Int32) < 0) (by decide)]
    · have e1 : HLD 1 (sf j) kp ks kf = ifc (Hs (sf j) ks) 1 4 := by unfold HLD; rw [ifc_f (q := (1 : Int32) = 0) (by decide), ifc_t (q := (1 : Int32) = 1) rfl]
      have e2 : KOM 2 (sf j) kp ks kf gp gs = ifc (Hs (sf j) ks) (nI (SKn (gs ((sf j).toNatClampNeg * 8 + 6)))) (-1) := by unfold KOM; rw [ifc_f (q := (2 : Int32) = 1) (by decide), ifc_t (q := (2 : Int32) = 2) rfl]
      rw [a1, a2, a3, ifc_f (q := (2 : Int32) = 4) (by decide), e1, e2]
      by_cases c2 : Hs (sf j) ks
      · have e3 : KNn 1 (sf j).toNatClampNeg fp fs = SKn (gs ((sf j).toNatClampNeg * 8 + 6)) := by
          have hb := Hs_at (by omega) c2
          unfold KNn
          rw [ifn_f (q := (1 : Int32) = 0) (by decide), ifn_t (q := (1 : Int32) = 1) rfl, hs ((sf j).toNatClampNeg * 8 + 6) (by omega)]
        have hl : SKn (gs ((sf j).toNatClampNeg * 8 + 6)) < 7 := SKn.lt
        rw [ifc_t c2, ifc_t c2, ifc_f (q := (1 : Int32) = 4) (by decide), ifc_f (q := (1 : Int32) = 3) (by decide), e3, ifc_f (q := nI (SKn (gs ((sf j).toNatClampNeg * 8 + 6))) < 0) (nI_nn (by omega)), nI_clamp (n := SKn (gs ((sf j).toNatClampNeg * 8 + 6))) (by omega)]
      · rw [ifc_f c2, ifc_f c2, ifc_t (q := (4 : Int32) = 4) rfl, ifc_t (q := (-1 : Int32) < 0) (by decide)]
    · have e1 : HLD 2 (sf j) kp ks kf = ifc (Hs (sf j) kf) 2 4 := by unfold HLD; rw [ifc_f (q := (2 : Int32) = 0) (by decide), ifc_f (q := (2 : Int32) = 1) (by decide), ifc_t (q := (2 : Int32) = 2) rfl]
      have e2 : KOM 3 (sf j) kp ks kf gp gs = ifc (Hs (sf j) kf) 6 (-1) := by unfold KOM; rw [ifc_f (q := (3 : Int32) = 1) (by decide), ifc_f (q := (3 : Int32) = 2) (by decide), ifc_t (q := (3 : Int32) = 3) rfl]
      rw [a1, a2, a3, ifc_f n34, e1, e2]
      by_cases c2 : Hs (sf j) kf
      · have e3 : KNn 2 (sf j).toNatClampNeg fp fs = 6 := by unfold KNn; rw [ifn_f (q := (2 : Int32) = 0) (by decide), ifn_f (q := (2 : Int32) = 1) (by decide)]
        have e6 : (6 : Int32).toNatClampNeg = 6 := by decide
        rw [ifc_t c2, ifc_t c2, ifc_f (q := (2 : Int32) = 4) (by decide), ifc_f (q := (2 : Int32) = 3) (by decide), e3, ifc_f (q := (6 : Int32) < 0) (by decide), e6]
      · rw [ifc_f c2, ifc_f c2, ifc_t (q := (4 : Int32) = 4) rfl, ifc_t (q := (-1 : Int32) < 0) (by decide)]
    · have e1 : HLD 3 (hn j) kp ks kf = 3 := by unfold HLD; rw [ifc_f (q := (3 : Int32) = 0) (by decide), ifc_f (q := (3 : Int32) = 1) (by decide), ifc_f (q := (3 : Int32) = 2) (by decide)]
      rw [a1, a2, e1, ifc_f n34, ifc_t (q := (3 : Int32) = 3) rfl, ifc_t (q := (4 : Int32) = 4) rfl, a3, a4]
      by_cases c5 : sf j = x2 - 10
      · rw [ifc_t c5, ifc_t c5.symm]
      · rw [ifc_f c5, ifc_f (fun h9 => c5 h9.symm)]
  · rw [ifc_f c1, ifc_f c1]
section WR
variable {p : Program} {l : Launch} {e : Env} {R : Room} {s : State} {m : MethodId} {args : Array Value} {below : List Frame} {meth : Method} {c : Code} {H : Heap} {locs : List Loc} {cells slots : Nat} {Q : State → Prop}
variable {pc : Nat} {ls : Array Slot} {rest : List Value} {G : GG} {ws : va_W} {A : Nat → Prop} {y0 : MethodName} {b0 : ByteArray} {mL0 : Nat} {rt0 : Option FieldType} {a : Nat} {H0 : Heap}
theorem gX12_began_0 : (decode cX12_began 0 = .ok (.aload_n 0, 1)) ∧ (decode cX12_began 1 = .ok (.getfield 351, 3)) ∧ (decode cX12_began 4 = .ok (.bipush 30, 2)) ∧ (decode cX12_began 6 = .ok (.if_icmp .ge 23, 3)) ∧ (decode cX12_began 9 = .ok (.aload_n 0, 1)) ∧ (decode cX12_began 10 = .ok (.getfield 81, 3)) ∧ (decode cX12_began 13 = .ok (.aload_n 0, 1)) ∧ (decode cX12_began 14 = .ok (.getfield 351, 3)) ∧ (decode cX12_began 17 = .ok (.iload_n 1, 1)) ∧ (decode cX12_began 18 = .ok (.iastore, 1)) := by decide +kernel
theorem m_1065 : Cond.fieldLink RX12 351 "InquiryBenchModel" "traced" "I" ∈ BW := iB_BW56 _ (List.mem_of_getElem? (i := 14) rfl)
theorem gf_X12_351 (hC : CX p s m meth c y0 b0 mL0 rt0 args) (hy0 : y0.cls = RX12) (hK : KK G s) (hP : va_P G.1 vwCl ws H) (q0 : Nat) {fs : List Value} {v : Value} (he : ws[q0]? = some (a, .inr (12, fs))) (hv : fs[35]? = some v) (hdg : decode b0 pc = .ok (.getfield 351, 3)) (kk : W p l e R s m args below meth c H locs cells slots Q (F0 m (pc + 3) ls (v :: rest))) : W p l e R s m args below meth c H locs cells slots Q (F0 m pc ls (.ref a :: rest)) := by
  obtain ⟨hx, hb, hr, hml, hB, hown, hlocks, hnm⟩ := hC
  rw [hy0] at hown
  exact va_get (ci := 12) (C := RX12) (T := TX12) (N := 41) hx hb hB in_X12 hown hK.1 hP q0 he rfl 35 (by decide) (hB _ m_1065) (fun _ h => h) hv hdg kk
theorem gX12_began_1 : (decode cX12_began 19 = .ok (.aload_n 0, 1)) ∧ (decode cX12_began 20 = .ok (.dup, 1)) ∧ (decode cX12_began 21 = .ok (.getfield 351, 3)) ∧ (decode cX12_began 24 = .ok (.iconst 1, 1)) ∧ (decode cX12_began 25 = .ok (.iadd, 1)) ∧ (decode cX12_began 26 = .ok (.putfield 351, 3)) ∧ (decode cX12_began 29 = .ok (.return_, 1)) := by decide +kernel
theorem m_1064 : Cond.fieldLink RX12 81 "InquiryBenchModel" "trace" "[I" ∈ BW := iB_BW56 _ (List.mem_of_getElem? (i := 13) rfl)
theorem gf_X12_81 (hC : CX p s m meth c y0 b0 mL0 rt0 args) (hy0 : y0.cls = RX12) (hK : KK G s) (hP : va_P G.1 vwCl ws H) (q0 : Nat) {fs : List Value} {v : Value} (he : ws[q0]? = some (a, .inr (12, fs))) (hv : fs[34]? = some v) (hdg : decode b0 pc = .ok (.getfield 81, 3)) (kk : W p l e R s m args below meth c H locs cells slots Q (F0 m (pc + 3) ls (v :: rest))) : W p l e R s m args below meth c H locs cells slots Q (F0 m pc ls (.ref a :: rest)) := by
  obtain ⟨hx, hb, hr, hml, hB, hown, hlocks, hnm⟩ := hC
  rw [hy0] at hown
  exact va_get (ci := 12) (C := RX12) (T := TX12) (N := 41) hx hb hB in_X12 hown hK.1 hP q0 he rfl 34 (by decide) (hB _ m_1064) (fun _ h => h) hv hdg kk
theorem pf_X12_351 (hC : CX p s m meth c y0 b0 mL0 rt0 args) (hy0 : y0.cls = RX12) (hK : KK G s) (hP : va_P G.1 vwCl ws H) (hD : va_D A ws) (hS : va_S A H0 H locs) (q0 : Nat) {fs : List Value} {v : Value} {ws' : va_W} (he : ws[q0]? = some (a, .inr (12, fs))) (hl : 35 < fs.length) (hws : ws.set q0 (a, .inr (12, fs.set 35 v)) = ws') (hn : narrow .int v = v) (hfit : fits .int v = true) (hdg : decode b0 pc = .ok (.putfield 351, 3)) (kk : ∀ (H1 : Heap) (locs1 : List Loc), va_P G.1 vwCl ws' H1 → va_D A ws' → va_S A H0 H1 locs1 → W p l e R s m args below meth c H1 locs1 cells slots Q (F0 m (pc + 3) ls rest)) : W p l e R s m args below meth c H locs cells slots Q (F0 m pc ls (v :: .ref a :: rest)) := by
  obtain ⟨hx, hb, hr, hml, hB, hown, hlocks, hnm⟩ := hC
  rw [hy0] at hown
  subst hws
  exact va_put (ci := 12) (ty := .int) (C := RX12) (T := TX12) (N := 41) hx hb hB in_X12 tyX12 tyX12_ok nmX12 hown hK.1 hP hD hS q0 he rfl 35 (by decide) (hB _ m_1065) (fun _ h => h) rfl (by decide +kernel) hn hfit hl hdg kk
end WR
theorem nz_sub {a b : Int32} (h : ¬ a = b) : ¬ a - b = 0 := by
  intro h9
  apply h
  have e : a - b + b = 0 + b := by rw [h9]
  rw [Int32.sub_add_cancel, Int32.zero_add] at e
  exact e
section WR
variable {p : Program} {l : Launch} {e : Env} {R : Room} {s : State} {m : MethodId} {args : Array Value} {below : List Frame} {meth : Method} {c : Code} {H : Heap} {locs : List Loc} {cells slots : Nat} {Q : State → Prop}
variable {pc : Nat} {ls : Array Slot} {rest : List Value} {G : GG} {ws : va_W} {A : Nat → Prop} {y0 : MethodName} {b0 : ByteArray} {mL0 : Nat} {rt0 : Option FieldType} {a : Nat} {H0 : Heap}
theorem gX12_body_0 : (decode cX12_body 0 = .ok (.iconst 4, 1)) ∧ (decode cX12_body 1 = .ok (.iload_n 1, 1)) ∧ (decode cX12_body 2 = .ok (.imul, 1)) ∧ (decode cX12_body 3 = .ok (.iload_n 2, 1)) ∧ (decode cX12_body 4 = .ok (.iadd, 1)) ∧ (decode cX12_body 5 = .ok (.tableswitch 348 0 22 #[107, 120, 135, 153, 348, 202, 348, 348, 348, 348, 221, 348, 348, 237, 348, 253, 269, 348, 288, 348, 329, 348, 313], 107)) ∧ (decode cX12_body 112 = .ok (.aload_n 0, 1)) ∧ (decode cX12_body 113 = .ok (.bipush 10, 2)) ∧ (decode cX12_body 115 = .ok (.invokevirtual 366, 3)) ∧ (decode cX12_body 118 = .ok (.iload_n 3, 1)) := by decide +kernel
theorem m_1409 : Cond.code yX12_began cX12_began 2 none ∈ BW := iB_BW75 _ (List.mem_of_getElem? (i := 5) rfl)
theorem m_1407 : Cond.methodLink RX12 366 yX12_began ∈ BW := iB_BW75 _ (List.mem_of_getElem? (i := 3) rfl)
theorem m_1408 : Cond.instanceMethod yX12_began ∈ BW := iB_BW75 _ (List.mem_of_getElem? (i := 4) rfl)
theorem m_101 : Cond.selects RX12 yX12_began yX12_began ∈ BW := iB_BW5 _ (List.mem_of_getElem? (i := 1) rfl)
theorem si_X12_366 : SV RX12 RX12 366 yX12_began cX12_began 2 none 1 := ⟨⟨m_1407, m_1408, m_101, m_115, m_1409⟩, rfl, nK_RX12.1, nK_RX12.2, pd_18⟩
theorem gX12_body_1 : (decode cX12_body 119 = .ok (.aload_n 0, 1)) ∧ (decode cX12_body 120 = .ok (.getfield 369, 3)) ∧ (decode cX12_body 123 = .ok (.iadd, 1)) ∧ (decode cX12_body 124 = .ok (.ireturn, 1)) ∧ (decode cX12_body 125 = .ok (.aload_n 0, 1)) ∧ (decode cX12_body 126 = .ok (.bipush 11, 2)) ∧ (decode cX12_body 128 = .ok (.invokevirtual 366, 3)) ∧ (decode cX12_body 131 = .ok (.aload_n 0, 1)) ∧ (decode cX12_body 132 = .ok (.iconst 0, 1)) ∧ (decode cX12_body 133 = .ok (.iload_n 3, 1)) := by decide +kernel
theorem m_1069 : Cond.fieldLink RX12 369 "InquiryBenchModel" "size" "I" ∈ BW := iB_BW56 _ (List.mem_of_getElem? (i := 18) rfl)
theorem gf_X12_369 (hC : CX p s m meth c y0 b0 mL0 rt0 args) (hy0 : y0.cls = RX12) (hK : KK G s) (hP : va_P G.1 vwCl ws H) (q0 : Nat) {fs : List Value} {v : Value} (he : ws[q0]? = some (a, .inr (12, fs))) (hv : fs[39]? = some v) (hdg : decode b0 pc = .ok (.getfield 369, 3)) (kk : W p l e R s m args below meth c H locs cells slots Q (F0 m (pc + 3) ls (v :: rest))) : W p l e R s m args below meth c H locs cells slots Q (F0 m pc ls (.ref a :: rest)) := by
  obtain ⟨hx, hb, hr, hml, hB, hown, hlocks, hnm⟩ := hC
  rw [hy0] at hown
  exact va_get (ci := 12) (C := RX12) (T := TX12) (N := 41) hx hb hB in_X12 hown hK.1 hP q0 he rfl 39 (by decide) (hB _ m_1069) (fun _ h => h) hv hdg kk
theorem gX12_bodyFrom_0 : (decode cX12_bodyFrom 0 = .ok (.iload_n 1, 1)) ∧ (decode cX12_bodyFrom 1 = .ok (.istore 4, 2)) ∧ (decode cX12_bodyFrom 3 = .ok (.iload 4, 2)) ∧ (decode cX12_bodyFrom 5 = .ok (.iload_n 2, 1)) ∧ (decode cX12_bodyFrom 6 = .ok (.invokestatic 360, 3)) ∧ (decode cX12_bodyFrom 9 = .ok (.ifCond .ne 13, 3)) ∧ (decode cX12_bodyFrom 12 = .ok (.iload 4, 2)) ∧ (decode cX12_bodyFrom 14 = .ok (.invokestatic 348, 3)) ∧ (decode cX12_bodyFrom 17 = .ok (.istore 4, 2)) ∧ (decode cX12_bodyFrom 19 = .ok (.goto (-16), 3)) := by decide +kernel
theorem m_1403 : Cond.code yX12_hasOwn cX12_hasOwn 2 (some .boolean) ∈ BW := iB_BW74 _ (List.mem_of_getElem? (i := 19) rfl)
theorem m_1401 : Cond.methodLink RX12 360 yX12_hasOwn ∈ BW := iB_BW74 _ (List.mem_of_getElem? (i := 17) rfl)
theorem m_1402 : Cond.static yX12_hasOwn ∈ BW := iB_BW74 _ (List.mem_of_getElem? (i := 18) rfl)
theorem si_X12_360 : SS RX12 360 yX12_hasOwn cX12_hasOwn 2 (some .boolean) 2 := ⟨⟨m_1401, m_1402, m_115, m_1403⟩, ⟨nK_RX12.1, nK_RX12.2, pd_3⟩⟩
theorem gX12_bodyFrom_1 : (decode cX12_bodyFrom 22 = .ok (.aload_n 0, 1)) ∧ (decode cX12_bodyFrom 23 = .ok (.iload 4, 2)) ∧ (decode cX12_bodyFrom 25 = .ok (.iload_n 2, 1)) ∧ (decode cX12_bodyFrom 26 = .ok (.iload_n 3, 1)) ∧ (decode cX12_bodyFrom 27 = .ok (.invokevirtual 363, 3)) ∧ (decode cX12_bodyFrom 30 = .ok (.ireturn, 1)) := by decide +kernel
theorem m_1406 : Cond.code yX12_body cX12_body 6 (some .int) ∈ BW := iB_BW75 _ (List.mem_of_getElem? (i := 2) rfl)
theorem m_1404 : Cond.methodLink RX12 363 yX12_body ∈ BW := iB_BW75 _ (List.mem_of_getElem? (i := 0) rfl)
theorem m_1405 : Cond.instanceMethod yX12_body ∈ BW := iB_BW75 _ (List.mem_of_getElem? (i := 1) rfl)
theorem m_100 : Cond.selects RX12 yX12_body yX12_body ∈ BW := iB_BW5 _ (List.mem_of_getElem? (i := 0) rfl)
theorem si_X12_363 : SV RX12 RX12 363 yX12_body cX12_body 6 (some .int) 3 := ⟨⟨m_1404, m_1405, m_100, m_115, m_1406⟩, rfl, nK_RX12.1, nK_RX12.2, pd_19⟩
theorem gX12_body_10 : (decode cX12_body 266 = .ok (.iconst 3, 1)) ∧ (decode cX12_body 267 = .ok (.iload_n 3, 1)) ∧ (decode cX12_body 268 = .ok (.iconst 2, 1)) ∧ (decode cX12_body 269 = .ok (.iadd, 1)) ∧ (decode cX12_body 270 = .ok (.invokevirtual 357, 3)) ∧ (decode cX12_body 273 = .ok (.ireturn, 1)) ∧ (decode cX12_body 274 = .ok (.aload_n 0, 1)) ∧ (decode cX12_body 275 = .ok (.bipush 50, 2)) ∧ (decode cX12_body 277 = .ok (.invokevirtual 366, 3)) ∧ (decode cX12_body 280 = .ok (.aload_n 0, 1)) := by decide +kernel
theorem gX12_body_11 : (decode cX12_body 281 = .ok (.iconst 0, 1)) ∧ (decode cX12_body 282 = .ok (.iconst 0, 1)) ∧ (decode cX12_body 283 = .ok (.iload_n 3, 1)) ∧ (decode cX12_body 284 = .ok (.invokevirtual 357, 3)) ∧ (decode cX12_body 287 = .ok (.aload_n 0, 1)) ∧ (decode cX12_body 288 = .ok (.getfield 378, 3)) ∧ (decode cX12_body 291 = .ok (.isub, 1)) ∧ (decode cX12_body 292 = .ok (.ireturn, 1)) ∧ (decode cX12_body 293 = .ok (.aload_n 0, 1)) ∧ (decode cX12_body 294 = .ok (.bipush 51, 2)) := by decide +kernel
theorem m_1400 : Cond.code yX12_bodyFrom cX12_bodyFrom 5 (some .int) ∈ BW := iB_BW74 _ (List.mem_of_getElem? (i := 16) rfl)
theorem m_1398 : Cond.methodLink RX12 357 yX12_bodyFrom ∈ BW := iB_BW74 _ (List.mem_of_getElem? (i := 14) rfl)
theorem m_1399 : Cond.instanceMethod yX12_bodyFrom ∈ BW := iB_BW74 _ (List.mem_of_getElem? (i := 15) rfl)
theorem m_99 : Cond.selects RX12 yX12_bodyFrom yX12_bodyFrom ∈ BW := iB_BW4 _ (List.mem_of_getElem? (i := 19) rfl)
theorem si_X12_357 : SV RX12 RX12 357 yX12_bodyFrom cX12_bodyFrom 5 (some .int) 3 := ⟨⟨m_1398, m_1399, m_99, m_115, m_1400⟩, rfl, nK_RX12.1, nK_RX12.2, pd_19⟩
theorem m_1067 : Cond.fieldLink RX12 378 "InquiryBenchModel" "numbe\x72" "I" ∈ BW := iB_BW56 _ (List.mem_of_getElem? (i := 16) rfl)
theorem gf_X12_378 (hC : CX p s m meth c y0 b0 mL0 rt0 args) (hy0 : y0.cls = RX12) (hK : KK G s) (hP : va_P G.1 vwCl ws H) (q0 : Nat) {fs : List Value} {v : Value} (he : ws[q0]? = some (a, .inr (12, fs))) (hv : fs[37]? = some v) (hdg : decode b0 pc = .ok (.getfield 378, 3)) (kk : W p l e R s m args below meth c H locs cells slots Q (F0 m (pc + 3) ls (v :: rest))) : W p l e R s m args below meth c H locs cells slots Q (F0 m pc ls (.ref a :: rest)) := by
  obtain ⟨hx, hb, hr, hml, hB, hown, hlocks, hnm⟩ := hC
  rw [hy0] at hown
  exact va_get (ci := 12) (C := RX12) (T := TX12) (N := 41) hx hb hB in_X12 hown hK.1 hP q0 he rfl 37 (by decide) (hB _ m_1067) (fun _ h => h) hv hdg kk
theorem gX12_body_14 : (decode cX12_body 327 = .ok (.iload_n 3, 1)) ∧ (decode cX12_body 328 = .ok (.invokevirtual 357, 3)) ∧ (decode cX12_body 331 = .ok (.iconst 2, 1)) ∧ (decode cX12_body 332 = .ok (.imul, 1)) ∧ (decode cX12_body 333 = .ok (.ireturn, 1)) ∧ (decode cX12_body 334 = .ok (.aload_n 0, 1)) ∧ (decode cX12_body 335 = .ok (.bipush 61, 2)) ∧ (decode cX12_body 337 = .ok (.invokevirtual 366, 3)) ∧ (decode cX12_body 340 = .ok (.aload_n 0, 1)) ∧ (decode cX12_body 341 = .ok (.iconst 4, 1)) := by decide +kernel
theorem gX12_body_15 : (decode cX12_body 342 = .ok (.iconst 0, 1)) ∧ (decode cX12_body 343 = .ok (.iload_n 3, 1)) ∧ (decode cX12_body 344 = .ok (.aload_n 0, 1)) ∧ (decode cX12_body 345 = .ok (.getfield 375, 3)) ∧ (decode cX12_body 348 = .ok (.iadd, 1)) ∧ (decode cX12_body 349 = .ok (.invokevirtual 357, 3)) ∧ (decode cX12_body 352 = .ok (.ireturn, 1)) ∧ (decode cX12_body 353 = .ok (.aload_n 0, 1)) ∧ (decode cX12_body 354 = .ok (.bipush 70, 2)) ∧ (decode cX12_body 356 = .ok (.invokevirtual 366, 3)) := by decide +kernel
theorem m_1068 : Cond.fieldLink RX12 375 "InquiryBenchModel" "whose" "I" ∈ BW := iB_BW56 _ (List.mem_of_getElem? (i := 17) rfl)
theorem gf_X12_375 (hC : CX p s m meth c y0 b0 mL0 rt0 args) (hy0 : y0.cls = RX12) (hK : KK G s) (hP : va_P G.1 vwCl ws H) (q0 : Nat) {fs : List Value} {v : Value} (he : ws[q0]? = some (a, .inr (12, fs))) (hv : fs[38]? = some v) (hdg : decode b0 pc = .ok (.getfield 375, 3)) (kk : W p l e R s m args below meth c H locs cells slots Q (F0 m (pc + 3) ls (v :: rest))) : W p l e R s m args below meth c H locs cells slots Q (F0 m pc ls (.ref a :: rest)) := by
  obtain ⟨hx, hb, hr, hml, hB, hown, hlocks, hnm⟩ := hC
  rw [hy0] at hown
  exact va_get (ci := 12) (C := RX12) (T := TX12) (N := 41) hx hb hB in_X12 hown hK.1 hP q0 he rfl 38 (by decide) (hB _ m_1068) (fun _ h => h) hv hdg kk
theorem gX12_dealt_0 : (decode cX12_dealt 0 = .ok (.aload_n 0, 1)) ∧ (decode cX12_dealt 1 = .ok (.aload_n 0, 1)) ∧ (decode cX12_dealt 2 = .ok (.getfield 354, 3)) ∧ (decode cX12_dealt 5 = .ok (.iload_n 1, 1)) ∧ (decode cX12_dealt 6 = .ok (.iload_n 2, 1)) ∧ (decode cX12_dealt 7 = .ok (.invokevirtual 357, 3)) ∧ (decode cX12_dealt 10 = .ok (.ireturn, 1)) := by decide +kernel
theorem m_1066 : Cond.fieldLink RX12 354 "InquiryBenchModel" "deale\x72" "I" ∈ BW := iB_BW56 _ (List.mem_of_getElem? (i := 15) rfl)
theorem gf_X12_354 (hC : CX p s m meth c y0 b0 mL0 rt0 args) (hy0 : y0.cls = RX12) (hK : KK G s) (hP : va_P G.1 vwCl ws H) (q0 : Nat) {fs : List Value} {v : Value} (he : ws[q0]? = some (a, .inr (12, fs))) (hv : fs[36]? = some v) (hdg : decode b0 pc = .ok (.getfield 354, 3)) (kk : W p l e R s m args below meth c H locs cells slots Q (F0 m (pc + 3) ls (v :: rest))) : W p l e R s m args below meth c H locs cells slots Q (F0 m pc ls (.ref a :: rest)) := by
  obtain ⟨hx, hb, hr, hml, hB, hown, hlocks, hnm⟩ := hC
  rw [hy0] at hown
  exact va_get (ci := 12) (C := RX12) (T := TX12) (N := 41) hx hb hB in_X12 hown hK.1 hP q0 he rfl 36 (by decide) (hB _ m_1066) (fun _ h => h) hv hdg kk
theorem gX12_body_2 : (decode cX12_body 134 = .ok (.invokevirtual 372, 3)) ∧ (decode cX12_body 137 = .ok (.iconst 2, 1)) ∧ (decode cX12_body 138 = .ok (.imul, 1)) ∧ (decode cX12_body 139 = .ok (.ireturn, 1)) ∧ (decode cX12_body 140 = .ok (.aload_n 0, 1)) ∧ (decode cX12_body 141 = .ok (.bipush 12, 2)) ∧ (decode cX12_body 143 = .ok (.invokevirtual 366, 3)) ∧ (decode cX12_body 146 = .ok (.aload_n 0, 1)) ∧ (decode cX12_body 147 = .ok (.iconst 1, 1)) ∧ (decode cX12_body 148 = .ok (.iload_n 3, 1)) := by decide +kernel
theorem m_1397 : Cond.code yX12_dealt cX12_dealt 3 (some .int) ∈ BW := iB_BW74 _ (List.mem_of_getElem? (i := 13) rfl)
theorem m_1395 : Cond.methodLink RX12 372 yX12_dealt ∈ BW := iB_BW74 _ (List.mem_of_getElem? (i := 11) rfl)
theorem m_1396 : Cond.instanceMethod yX12_dealt ∈ BW := iB_BW74 _ (List.mem_of_getElem? (i := 12) rfl)
theorem m_98 : Cond.selects RX12 yX12_dealt yX12_dealt ∈ BW := iB_BW4 _ (List.mem_of_getElem? (i := 18) rfl)
theorem si_X12_372 : SV RX12 RX12 372 yX12_dealt cX12_dealt 3 (some .int) 2 := ⟨⟨m_1395, m_1396, m_98, m_115, m_1397⟩, rfl, nK_RX12.1, nK_RX12.2, pd_2⟩
theorem gX12_body_6 : (decode cX12_body 206 = .ok (.ireturn, 1)) ∧ (decode cX12_body 207 = .ok (.aload_n 0, 1)) ∧ (decode cX12_body 208 = .ok (.bipush 20, 2)) ∧ (decode cX12_body 210 = .ok (.invokevirtual 366, 3)) ∧ (decode cX12_body 213 = .ok (.aload_n 0, 1)) ∧ (decode cX12_body 214 = .ok (.iconst 0, 1)) ∧ (decode cX12_body 215 = .ok (.iconst 1, 1)) ∧ (decode cX12_body 216 = .ok (.iload_n 3, 1)) ∧ (decode cX12_body 217 = .ok (.invokevirtual 357, 3)) ∧ (decode cX12_body 220 = .ok (.aload_n 0, 1)) := by decide +kernel
theorem gX12_body_7 : (decode cX12_body 221 = .ok (.getfield 378, 3)) ∧ (decode cX12_body 224 = .ok (.ixor, 1)) ∧ (decode cX12_body 225 = .ok (.ireturn, 1)) ∧ (decode cX12_body 226 = .ok (.aload_n 0, 1)) ∧ (decode cX12_body 227 = .ok (.bipush 30, 2)) ∧ (decode cX12_body 229 = .ok (.invokevirtual 366, 3)) ∧ (decode cX12_body 232 = .ok (.aload_n 0, 1)) ∧ (decode cX12_body 233 = .ok (.iconst 0, 1)) ∧ (decode cX12_body 234 = .ok (.iconst 2, 1)) ∧ (decode cX12_body 235 = .ok (.iload_n 3, 1)) := by decide +kernel
theorem gX12_body_8 : (decode cX12_body 236 = .ok (.invokevirtual 357, 3)) ∧ (decode cX12_body 239 = .ok (.iconst 3, 1)) ∧ (decode cX12_body 240 = .ok (.imul, 1)) ∧ (decode cX12_body 241 = .ok (.ireturn, 1)) ∧ (decode cX12_body 242 = .ok (.aload_n 0, 1)) ∧ (decode cX12_body 243 = .ok (.bipush 40, 2)) ∧ (decode cX12_body 245 = .ok (.invokevirtual 366, 3)) ∧ (decode cX12_body 248 = .ok (.iconst 0, 1)) ∧ (decode cX12_body 249 = .ok (.aload_n 0, 1)) ∧ (decode cX12_body 250 = .ok (.iconst 1, 1)) := by decide +kernel
theorem gX12_body_9 : (decode cX12_body 251 = .ok (.iconst 1, 1)) ∧ (decode cX12_body 252 = .ok (.iload_n 3, 1)) ∧ (decode cX12_body 253 = .ok (.invokevirtual 357, 3)) ∧ (decode cX12_body 256 = .ok (.isub, 1)) ∧ (decode cX12_body 257 = .ok (.ireturn, 1)) ∧ (decode cX12_body 258 = .ok (.aload_n 0, 1)) ∧ (decode cX12_body 259 = .ok (.bipush 41, 2)) ∧ (decode cX12_body 261 = .ok (.invokevirtual 366, 3)) ∧ (decode cX12_body 264 = .ok (.aload_n 0, 1)) ∧ (decode cX12_body 265 = .ok (.iconst 1, 1)) := by decide +kernel
theorem gX12_body_3 : (decode cX12_body 149 = .ok (.invokevirtual 372, 3)) ∧ (decode cX12_body 152 = .ok (.aload_n 0, 1)) ∧ (decode cX12_body 153 = .ok (.getfield 375, 3)) ∧ (decode cX12_body 156 = .ok (.isub, 1)) ∧ (decode cX12_body 157 = .ok (.ireturn, 1)) ∧ (decode cX12_body 158 = .ok (.aload_n 0, 1)) ∧ (decode cX12_body 159 = .ok (.bipush 13, 2)) ∧ (decode cX12_body 161 = .ok (.invokevirtual 366, 3)) ∧ (decode cX12_body 164 = .ok (.aload_n 0, 1)) ∧ (decode cX12_body 165 = .ok (.aload_n 0, 1)) := by decide +kernel
theorem gX12_body_12 : (decode cX12_body 296 = .ok (.invokevirtual 366, 3)) ∧ (decode cX12_body 299 = .ok (.aload_n 0, 1)) ∧ (decode cX12_body 300 = .ok (.iconst 0, 1)) ∧ (decode cX12_body 301 = .ok (.iconst 2, 1)) ∧ (decode cX12_body 302 = .ok (.iload_n 3, 1)) ∧ (decode cX12_body 303 = .ok (.invokevirtual 357, 3)) ∧ (decode cX12_body 306 = .ok (.istore 4, 2)) ∧ (decode cX12_body 308 = .ok (.iload 4, 2)) ∧ (decode cX12_body 310 = .ok (.aload_n 0, 1)) ∧ (decode cX12_body 311 = .ok (.iconst 1, 1)) := by decide +kernel
theorem gX12_body_13 : (decode cX12_body 312 = .ok (.iconst 1, 1)) ∧ (decode cX12_body 313 = .ok (.invokevirtual 372, 3)) ∧ (decode cX12_body 316 = .ok (.iadd, 1)) ∧ (decode cX12_body 317 = .ok (.ireturn, 1)) ∧ (decode cX12_body 318 = .ok (.aload_n 0, 1)) ∧ (decode cX12_body 319 = .ok (.bipush 60, 2)) ∧ (decode cX12_body 321 = .ok (.invokevirtual 366, 3)) ∧ (decode cX12_body 324 = .ok (.aload_n 0, 1)) ∧ (decode cX12_body 325 = .ok (.iconst 4, 1)) ∧ (decode cX12_body 326 = .ok (.iconst 2, 1)) := by decide +kernel
theorem gX12_body_4 : (decode cX12_body 166 = .ok (.getfield 375, 3)) ∧ (decode cX12_body 169 = .ok (.aload_n 0, 1)) ∧ (decode cX12_body 170 = .ok (.getfield 378, 3)) ∧ (decode cX12_body 173 = .ok (.if_icmp .ne 7, 3)) ∧ (decode cX12_body 176 = .ok (.iconst 1, 1)) ∧ (decode cX12_body 177 = .ok (.goto 4, 3)) ∧ (decode cX12_body 180 = .ok (.iconst 0, 1)) ∧ (decode cX12_body 181 = .ok (.putfield 380, 3)) ∧ (decode cX12_body 184 = .ok (.aload_n 0, 1)) ∧ (decode cX12_body 185 = .ok (.getfield 380, 3)) := by decide +kernel
theorem m_1070 : Cond.fieldLink RX12 380 "InquiryBenchModel" "isParted" "Z" ∈ BW := iB_BW56 _ (List.mem_of_getElem? (i := 19) rfl)
theorem pf_X12_380 (hC : CX p s m meth c y0 b0 mL0 rt0 args) (hy0 : y0.cls = RX12) (hK : KK G s) (hP : va_P G.1 vwCl ws H) (hD : va_D A ws) (hS : va_S A H0 H locs) (q0 : Nat) {fs : List Value} {v : Value} {ws' : va_W} (he : ws[q0]? = some (a, .inr (12, fs))) (hl : 40 < fs.length) (hws : ws.set q0 (a, .inr (12, fs.set 40 v)) = ws') (hn : narrow .boolean v = v) (hfit : fits .boolean v = true) (hdg : decode b0 pc = .ok (.putfield 380, 3)) (kk : ∀ (H1 : Heap) (locs1 : List Loc), va_P G.1 vwCl ws' H1 → va_D A ws' → va_S A H0 H1 locs1 → W p l e R s m args below meth c H1 locs1 cells slots Q (F0 m (pc + 3) ls rest)) : W p l e R s m args below meth c H locs cells slots Q (F0 m pc ls (v :: .ref a :: rest)) := by
  obtain ⟨hx, hb, hr, hml, hB, hown, hlocks, hnm⟩ := hC
  rw [hy0] at hown
  subst hws
  exact va_put (ci := 12) (ty := .boolean) (C := RX12) (T := TX12) (N := 41) hx hb hB in_X12 tyX12 tyX12_ok nmX12 hown hK.1 hP hD hS q0 he rfl 40 (by decide) (hB _ m_1070) (fun _ h => h) rfl (by decide +kernel) hn hfit hl hdg kk
theorem gf_X12_380 (hC : CX p s m meth c y0 b0 mL0 rt0 args) (hy0 : y0.cls = RX12) (hK : KK G s) (hP : va_P G.1 vwCl ws H) (q0 : Nat) {fs : List Value} {v : Value} (he : ws[q0]? = some (a, .inr (12, fs))) (hv : fs[40]? = some v) (hdg : decode b0 pc = .ok (.getfield 380, 3)) (kk : W p l e R s m args below meth c H locs cells slots Q (F0 m (pc + 3) ls (v :: rest))) : W p l e R s m args below meth c H locs cells slots Q (F0 m pc ls (.ref a :: rest)) := by
  obtain ⟨hx, hb, hr, hml, hB, hown, hlocks, hnm⟩ := hC
  rw [hy0] at hown
  exact va_get (ci := 12) (C := RX12) (T := TX12) (N := 41) hx hb hB in_X12 hown hK.1 hP q0 he rfl 40 (by decide) (hB _ m_1070) (fun _ h => h) hv hdg kk
theorem gX12_body_5 : (decode cX12_body 188 = .ok (.ifCond .eq 7, 3)) ∧ (decode cX12_body 191 = .ok (.iconst 0, 1)) ∧ (decode cX12_body 192 = .ok (.goto 14, 3)) ∧ (decode cX12_body 195 = .ok (.iload_n 3, 1)) ∧ (decode cX12_body 196 = .ok (.aload_n 0, 1)) ∧ (decode cX12_body 197 = .ok (.getfield 375, 3)) ∧ (decode cX12_body 200 = .ok (.aload_n 0, 1)) ∧ (decode cX12_body 201 = .ok (.getfield 378, 3)) ∧ (decode cX12_body 204 = .ok (.isub, 1)) ∧ (decode cX12_body 205 = .ok (.idiv, 1)) := by decide +kernel
theorem gX12_body_16 : (decode cX12_body 359 = .ok (.aload_n 0, 1)) ∧ (decode cX12_body 360 = .ok (.iconst 0, 1)) ∧ (decode cX12_body 361 = .ok (.iconst 3, 1)) ∧ (decode cX12_body 362 = .ok (.iload_n 3, 1)) ∧ (decode cX12_body 363 = .ok (.invokevirtual 357, 3)) ∧ (decode cX12_body 366 = .ok (.istore 5, 2)) ∧ (decode cX12_body 368 = .ok (.aload_n 0, 1)) ∧ (decode cX12_body 369 = .ok (.getfield 380, 3)) ∧ (decode cX12_body 372 = .ok (.ifCond .eq 7, 3)) ∧ (decode cX12_body 375 = .ok (.iconst 0, 1)) := by decide +kernel
theorem gX12_body_17 : (decode cX12_body 376 = .ok (.goto 15, 3)) ∧ (decode cX12_body 379 = .ok (.iload 5, 2)) ∧ (decode cX12_body 381 = .ok (.aload_n 0, 1)) ∧ (decode cX12_body 382 = .ok (.iconst 0, 1)) ∧ (decode cX12_body 383 = .ok (.aload_n 0, 1)) ∧ (decode cX12_body 384 = .ok (.getfield 378, 3)) ∧ (decode cX12_body 387 = .ok (.invokevirtual 372, 3)) ∧ (decode cX12_body 390 = .ok (.isub, 1)) ∧ (decode cX12_body 391 = .ok (.ireturn, 1)) := by decide +kernel
theorem gX12_deal_0 : (decode cX12_deal 0 = .ok (.aload_n 0, 1)) ∧ (decode cX12_deal 1 = .ok (.iconst 0, 1)) ∧ (decode cX12_deal 2 = .ok (.putfield 351, 3)) ∧ (decode cX12_deal 5 = .ok (.iload_n 1, 1)) ∧ (decode cX12_deal 6 = .ok (.invokestatic 336, 3)) ∧ (decode cX12_deal 9 = .ok (.ifCond .eq 10, 3)) ∧ (decode cX12_deal 12 = .ok (.iload_n 2, 1)) ∧ (decode cX12_deal 13 = .ok (.invokestatic 336, 3)) ∧ (decode cX12_deal 16 = .ok (.ifCond .ne 7, 3)) ∧ (decode cX12_deal 19 = .ok (.iconst (-1), 1)) := by decide +kernel
theorem gX12_deal_1 : (decode cX12_deal 20 = .ok (.goto 8, 3)) ∧ (decode cX12_deal 23 = .ok (.aload_n 0, 1)) ∧ (decode cX12_deal 24 = .ok (.iload_n 1, 1)) ∧ (decode cX12_deal 25 = .ok (.invokevirtual 345, 3)) ∧ (decode cX12_deal 28 = .ok (.istore 4, 2)) ∧ (decode cX12_deal 30 = .ok (.iload 4, 2)) ∧ (decode cX12_deal 32 = .ok (.ifCond .ge 5, 3)) ∧ (decode cX12_deal 35 = .ok (.iconst 0, 1)) ∧ (decode cX12_deal 36 = .ok (.ireturn, 1)) ∧ (decode cX12_deal 37 = .ok (.aload_n 0, 1)) := by decide +kernel
theorem gX12_deal_2 : (decode cX12_deal 38 = .ok (.iload 4, 2)) ∧ (decode cX12_deal 40 = .ok (.putfield 354, 3)) ∧ (decode cX12_deal 43 = .ok (.aload_n 0, 1)) ∧ (decode cX12_deal 44 = .ok (.aload_n 0, 1)) ∧ (decode cX12_deal 45 = .ok (.getfield 75, 3)) ∧ (decode cX12_deal 48 = .ok (.iload_n 1, 1)) ∧ (decode cX12_deal 49 = .ok (.iaload, 1)) ∧ (decode cX12_deal 50 = .ok (.putfield 378, 3)) ∧ (decode cX12_deal 53 = .ok (.aload_n 0, 1)) ∧ (decode cX12_deal 54 = .ok (.getfield 72, 3)) := by decide +kernel
theorem pf_X12_354 (hC : CX p s m meth c y0 b0 mL0 rt0 args) (hy0 : y0.cls = RX12) (hK : KK G s) (hP : va_P G.1 vwCl ws H) (hD : va_D A ws) (hS : va_S A H0 H locs) (q0 : Nat) {fs : List Value} {v : Value} {ws' : va_W} (he : ws[q0]? = some (a, .inr (12, fs))) (hl : 36 < fs.length) (hws : ws.set q0 (a, .inr (12, fs.set 36 v)) = ws') (hn : narrow .int v = v) (hfit : fits .int v = true) (hdg : decode b0 pc = .ok (.putfield 354, 3)) (kk : ∀ (H1 : Heap) (locs1 : List Loc), va_P G.1 vwCl ws' H1 → va_D A ws' → va_S A H0 H1 locs1 → W p l e R s m args below meth c H1 locs1 cells slots Q (F0 m (pc + 3) ls rest)) : W p l e R s m args below meth c H locs cells slots Q (F0 m pc ls (v :: .ref a :: rest)) := by
  obtain ⟨hx, hb, hr, hml, hB, hown, hlocks, hnm⟩ := hC
  rw [hy0] at hown
  subst hws
  exact va_put (ci := 12) (ty := .int) (C := RX12) (T := TX12) (N := 41) hx hb hB in_X12 tyX12 tyX12_ok nmX12 hown hK.1 hP hD hS q0 he rfl 36 (by decide) (hB _ m_1066) (fun _ h => h) rfl (by decide +kernel) hn hfit hl hdg kk
theorem pf_X12_378 (hC : CX p s m meth c y0 b0 mL0 rt0 args) (hy0 : y0.cls = RX12) (hK : KK G s) (hP : va_P G.1 vwCl ws H) (hD : va_D A ws) (hS : va_S A H0 H locs) (q0 : Nat) {fs : List Value} {v : Value} {ws' : va_W} (he : ws[q0]? = some (a, .inr (12, fs))) (hl : 37 < fs.length) (hws : ws.set q0 (a, .inr (12, fs.set 37 v)) = ws') (hn : narrow .int v = v) (hfit : fits .int v = true) (hdg : decode b0 pc = .ok (.putfield 378, 3)) (kk : ∀ (H1 : Heap) (locs1 : List Loc), va_P G.1 vwCl ws' H1 → va_D A ws' → va_S A H0 H1 locs1 → W p l e R s m args below meth c H1 locs1 cells slots Q (F0 m (pc + 3) ls rest)) : W p l e R s m args below meth c H locs cells slots Q (F0 m pc ls (v :: .ref a :: rest)) := by
  obtain ⟨hx, hb, hr, hml, hB, hown, hlocks, hnm⟩ := hC
  rw [hy0] at hown
  subst hws
  exact va_put (ci := 12) (ty := .int) (C := RX12) (T := TX12) (N := 41) hx hb hB in_X12 tyX12 tyX12_ok nmX12 hown hK.1 hP hD hS q0 he rfl 37 (by decide) (hB _ m_1067) (fun _ h => h) rfl (by decide +kernel) hn hfit hl hdg kk
theorem gX12_deal_3 : (decode cX12_deal 57 = .ok (.iload_n 1, 1)) ∧ (decode cX12_deal 58 = .ok (.iaload, 1)) ∧ (decode cX12_deal 59 = .ok (.iconst 1, 1)) ∧ (decode cX12_deal 60 = .ok (.if_icmp .ne 7, 3)) ∧ (decode cX12_deal 63 = .ok (.iconst 1, 1)) ∧ (decode cX12_deal 64 = .ok (.goto 4, 3)) ∧ (decode cX12_deal 67 = .ok (.iconst 0, 1)) ∧ (decode cX12_deal 68 = .ok (.istore 5, 2)) ∧ (decode cX12_deal 70 = .ok (.aload_n 0, 1)) ∧ (decode cX12_deal 71 = .ok (.getfield 72, 3)) := by decide +kernel
theorem gX12_deal_4 : (decode cX12_deal 74 = .ok (.iload_n 1, 1)) ∧ (decode cX12_deal 75 = .ok (.iaload, 1)) ∧ (decode cX12_deal 76 = .ok (.iconst 2, 1)) ∧ (decode cX12_deal 77 = .ok (.if_icmp .ne 7, 3)) ∧ (decode cX12_deal 80 = .ok (.iconst 1, 1)) ∧ (decode cX12_deal 81 = .ok (.goto 4, 3)) ∧ (decode cX12_deal 84 = .ok (.iconst 0, 1)) ∧ (decode cX12_deal 85 = .ok (.istore 6, 2)) ∧ (decode cX12_deal 87 = .ok (.aload_n 0, 1)) ∧ (decode cX12_deal 88 = .ok (.iload 5, 2)) := by decide +kernel
theorem gX12_deal_5 : (decode cX12_deal 90 = .ok (.ifCond .eq 15, 3)) ∧ (decode cX12_deal 93 = .ok (.aload_n 0, 1)) ∧ (decode cX12_deal 94 = .ok (.aload_n 0, 1)) ∧ (decode cX12_deal 95 = .ok (.getfield 378, 3)) ∧ (decode cX12_deal 98 = .ok (.iconst 0, 1)) ∧ (decode cX12_deal 99 = .ok (.invokevirtual 88, 3)) ∧ (decode cX12_deal 102 = .ok (.goto 37, 3)) ∧ (decode cX12_deal 105 = .ok (.iload 6, 2)) ∧ (decode cX12_deal 107 = .ok (.ifCond .eq 15, 3)) ∧ (decode cX12_deal 110 = .ok (.aload_n 0, 1)) := by decide +kernel
theorem gX12_deal_7 : (decode cX12_deal 131 = .ok (.getfield 378, 3)) ∧ (decode cX12_deal 134 = .ok (.imul, 1)) ∧ (decode cX12_deal 135 = .ok (.iadd, 1)) ∧ (decode cX12_deal 136 = .ok (.iconst 0, 1)) ∧ (decode cX12_deal 137 = .ok (.iadd, 1)) ∧ (decode cX12_deal 138 = .ok (.iaload, 1)) ∧ (decode cX12_deal 139 = .ok (.putfield 375, 3)) ∧ (decode cX12_deal 142 = .ok (.aload_n 0, 1)) ∧ (decode cX12_deal 143 = .ok (.iload 5, 2)) ∧ (decode cX12_deal 145 = .ok (.ifCond .eq 15, 3)) := by decide +kernel
theorem pf_X12_375 (hC : CX p s m meth c y0 b0 mL0 rt0 args) (hy0 : y0.cls = RX12) (hK : KK G s) (hP : va_P G.1 vwCl ws H) (hD : va_D A ws) (hS : va_S A H0 H locs) (q0 : Nat) {fs : List Value} {v : Value} {ws' : va_W} (he : ws[q0]? = some (a, .inr (12, fs))) (hl : 38 < fs.length) (hws : ws.set q0 (a, .inr (12, fs.set 38 v)) = ws') (hn : narrow .int v = v) (hfit : fits .int v = true) (hdg : decode b0 pc = .ok (.putfield 375, 3)) (kk : ∀ (H1 : Heap) (locs1 : List Loc), va_P G.1 vwCl ws' H1 → va_D A ws' → va_S A H0 H1 locs1 → W p l e R s m args below meth c H1 locs1 cells slots Q (F0 m (pc + 3) ls rest)) : W p l e R s m args below meth c H locs cells slots Q (F0 m pc ls (v :: .ref a :: rest)) := by
  obtain ⟨hx, hb, hr, hml, hB, hown, hlocks, hnm⟩ := hC
  rw [hy0] at hown
  subst hws
  exact va_put (ci := 12) (ty := .int) (C := RX12) (T := TX12) (N := 41) hx hb hB in_X12 tyX12 tyX12_ok nmX12 hown hK.1 hP hD hS q0 he rfl 38 (by decide) (hB _ m_1068) (fun _ h => h) rfl (by decide +kernel) hn hfit hl hdg kk
theorem gX12_deal_8 : (decode cX12_deal 148 = .ok (.aload_n 0, 1)) ∧ (decode cX12_deal 149 = .ok (.aload_n 0, 1)) ∧ (decode cX12_deal 150 = .ok (.getfield 378, 3)) ∧ (decode cX12_deal 153 = .ok (.iconst 2, 1)) ∧ (decode cX12_deal 154 = .ok (.invokevirtual 88, 3)) ∧ (decode cX12_deal 157 = .ok (.goto 37, 3)) ∧ (decode cX12_deal 160 = .ok (.iload 6, 2)) ∧ (decode cX12_deal 162 = .ok (.ifCond .eq 15, 3)) ∧ (decode cX12_deal 165 = .ok (.aload_n 0, 1)) ∧ (decode cX12_deal 166 = .ok (.aload_n 0, 1)) := by decide +kernel
theorem gX12_deal_10 : (decode cX12_deal 189 = .ok (.imul, 1)) ∧ (decode cX12_deal 190 = .ok (.iadd, 1)) ∧ (decode cX12_deal 191 = .ok (.iconst 2, 1)) ∧ (decode cX12_deal 192 = .ok (.iadd, 1)) ∧ (decode cX12_deal 193 = .ok (.iaload, 1)) ∧ (decode cX12_deal 194 = .ok (.putfield 369, 3)) ∧ (decode cX12_deal 197 = .ok (.aload_n 0, 1)) ∧ (decode cX12_deal 198 = .ok (.iconst 0, 1)) ∧ (decode cX12_deal 199 = .ok (.putfield 380, 3)) ∧ (decode cX12_deal 202 = .ok (.aload_n 0, 1)) := by decide +kernel
theorem pf_X12_369 (hC : CX p s m meth c y0 b0 mL0 rt0 args) (hy0 : y0.cls = RX12) (hK : KK G s) (hP : va_P G.1 vwCl ws H) (hD : va_D A ws) (hS : va_S A H0 H locs) (q0 : Nat) {fs : List Value} {v : Value} {ws' : va_W} (he : ws[q0]? = some (a, .inr (12, fs))) (hl : 39 < fs.length) (hws : ws.set q0 (a, .inr (12, fs.set 39 v)) = ws') (hn : narrow .int v = v) (hfit : fits .int v = true) (hdg : decode b0 pc = .ok (.putfield 369, 3)) (kk : ∀ (H1 : Heap) (locs1 : List Loc), va_P G.1 vwCl ws' H1 → va_D A ws' → va_S A H0 H1 locs1 → W p l e R s m args below meth c H1 locs1 cells slots Q (F0 m (pc + 3) ls rest)) : W p l e R s m args below meth c H locs cells slots Q (F0 m pc ls (v :: .ref a :: rest)) := by
  obtain ⟨hx, hb, hr, hml, hB, hown, hlocks, hnm⟩ := hC
  rw [hy0] at hown
  subst hws
  exact va_put (ci := 12) (ty := .int) (C := RX12) (T := TX12) (N := 41) hx hb hB in_X12 tyX12 tyX12_ok nmX12 hown hK.1 hP hD hS q0 he rfl 39 (by decide) (hB _ m_1069) (fun _ h => h) rfl (by decide +kernel) hn hfit hl hdg kk
theorem gX12_deal_11 : (decode cX12_deal 203 = .ok (.iload_n 2, 1)) ∧ (decode cX12_deal 204 = .ok (.iload_n 3, 1)) ∧ (decode cX12_deal 205 = .ok (.invokevirtual 372, 3)) ∧ (decode cX12_deal 208 = .ok (.istore 7, 2)) ∧ (decode cX12_deal 210 = .ok (.aload_n 0, 1)) ∧ (decode cX12_deal 211 = .ok (.getfield 380, 3)) ∧ (decode cX12_deal 214 = .ok (.ifCond .eq 8, 3)) ∧ (decode cX12_deal 217 = .ok (.bipush (-15), 2)) ∧ (decode cX12_deal 219 = .ok (.goto 5, 3)) ∧ (decode cX12_deal 222 = .ok (.iload 7, 2)) := by decide +kernel
theorem gX12_deal_12 : (decode cX12_deal 224 = .ok (.ireturn, 1)) := by decide +kernel
theorem gX12_deal_6 : (decode cX12_deal 111 = .ok (.aload_n 0, 1)) ∧ (decode cX12_deal 112 = .ok (.getfield 378, 3)) ∧ (decode cX12_deal 115 = .ok (.iconst 0, 1)) ∧ (decode cX12_deal 116 = .ok (.invokevirtual 114, 3)) ∧ (decode cX12_deal 119 = .ok (.goto 20, 3)) ∧ (decode cX12_deal 122 = .ok (.aload_n 0, 1)) ∧ (decode cX12_deal 123 = .ok (.getfield 9, 3)) ∧ (decode cX12_deal 126 = .ok (.sipush 1552, 3)) ∧ (decode cX12_deal 129 = .ok (.iconst 4, 1)) ∧ (decode cX12_deal 130 = .ok (.aload_n 0, 1)) := by decide +kernel
theorem gX12_deal_9 : (decode cX12_deal 167 = .ok (.getfield 378, 3)) ∧ (decode cX12_deal 170 = .ok (.iconst 4, 1)) ∧ (decode cX12_deal 171 = .ok (.invokevirtual 114, 3)) ∧ (decode cX12_deal 174 = .ok (.goto 20, 3)) ∧ (decode cX12_deal 177 = .ok (.aload_n 0, 1)) ∧ (decode cX12_deal 178 = .ok (.getfield 9, 3)) ∧ (decode cX12_deal 181 = .ok (.sipush 1552, 3)) ∧ (decode cX12_deal 184 = .ok (.iconst 4, 1)) ∧ (decode cX12_deal 185 = .ok (.aload_n 0, 1)) ∧ (decode cX12_deal 186 = .ok (.getfield 378, 3)) := by decide +kernel
theorem gX12_trace_0 : (decode cX12_trace 0 = .ok (.iload_n 1, 1)) ∧ (decode cX12_trace 1 = .ok (.iconst 0, 1)) ∧ (decode cX12_trace 2 = .ok (.aload_n 0, 1)) ∧ (decode cX12_trace 3 = .ok (.getfield 351, 3)) ∧ (decode cX12_trace 6 = .ok (.iconst 1, 1)) ∧ (decode cX12_trace 7 = .ok (.isub, 1)) ∧ (decode cX12_trace 8 = .ok (.invokestatic 84, 3)) ∧ (decode cX12_trace 11 = .ok (.ifCond .eq 12, 3)) ∧ (decode cX12_trace 14 = .ok (.aload_n 0, 1)) ∧ (decode cX12_trace 15 = .ok (.getfield 81, 3)) := by decide +kernel
theorem gX12_trace_1 : (decode cX12_trace 18 = .ok (.iload_n 1, 1)) ∧ (decode cX12_trace 19 = .ok (.iaload, 1)) ∧ (decode cX12_trace 20 = .ok (.goto 5, 3)) ∧ (decode cX12_trace 23 = .ok (.bipush (-3), 2)) ∧ (decode cX12_trace 25 = .ok (.ireturn, 1)) := by decide +kernel
theorem gX12_many_0 : (decode cX12_many 0 = .ok (.iload_n 1, 1)) ∧ (decode cX12_many 1 = .ok (.tableswitch 212 0 14 #[75, 82, 89, 96, 104, 112, 120, 128, 134, 142, 181, 189, 197, 202, 207], 75)) ∧ (decode cX12_many 76 = .ok (.aload_n 0, 1)) ∧ (decode cX12_many 77 = .ok (.getfield 9, 3)) ∧ (decode cX12_many 80 = .ok (.iconst 0, 1)) ∧ (decode cX12_many 81 = .ok (.iaload, 1)) ∧ (decode cX12_many 82 = .ok (.ireturn, 1)) ∧ (decode cX12_many 83 = .ok (.aload_n 0, 1)) ∧ (decode cX12_many 84 = .ok (.getfield 9, 3)) ∧ (decode cX12_many 87 = .ok (.iconst 4, 1)) := by decide +kernel
theorem gX12_many_1 : (decode cX12_many 88 = .ok (.iaload, 1)) ∧ (decode cX12_many 89 = .ok (.ireturn, 1)) ∧ (decode cX12_many 90 = .ok (.aload_n 0, 1)) ∧ (decode cX12_many 91 = .ok (.getfield 9, 3)) ∧ (decode cX12_many 94 = .ok (.iconst 5, 1)) ∧ (decode cX12_many 95 = .ok (.iaload, 1)) ∧ (decode cX12_many 96 = .ok (.ireturn, 1)) ∧ (decode cX12_many 97 = .ok (.aload_n 0, 1)) ∧ (decode cX12_many 98 = .ok (.invokevirtual 107, 3)) ∧ (decode cX12_many 101 = .ok (.invokestatic 110, 3)) := by decide +kernel
theorem gX12_many_2 : (decode cX12_many 104 = .ok (.ireturn, 1)) ∧ (decode cX12_many 105 = .ok (.aload_n 0, 1)) ∧ (decode cX12_many 106 = .ok (.getfield 9, 3)) ∧ (decode cX12_many 109 = .ok (.bipush 6, 2)) ∧ (decode cX12_many 111 = .ok (.iaload, 1)) ∧ (decode cX12_many 112 = .ok (.ireturn, 1)) ∧ (decode cX12_many 113 = .ok (.aload_n 0, 1)) ∧ (decode cX12_many 114 = .ok (.getfield 9, 3)) ∧ (decode cX12_many 117 = .ok (.bipush 7, 2)) ∧ (decode cX12_many 119 = .ok (.iaload, 1)) := by decide +kernel
theorem gX12_many_3 : (decode cX12_many 120 = .ok (.ireturn, 1)) ∧ (decode cX12_many 121 = .ok (.aload_n 0, 1)) ∧ (decode cX12_many 122 = .ok (.getfield 9, 3)) ∧ (decode cX12_many 125 = .ok (.bipush 8, 2)) ∧ (decode cX12_many 127 = .ok (.iaload, 1)) ∧ (decode cX12_many 128 = .ok (.ireturn, 1)) ∧ (decode cX12_many 129 = .ok (.aload_n 0, 1)) ∧ (decode cX12_many 130 = .ok (.iconst (-1), 1)) ∧ (decode cX12_many 131 = .ok (.invokevirtual 127, 3)) ∧ (decode cX12_many 134 = .ok (.ireturn, 1)) := by decide +kernel
theorem gX12_many_4 : (decode cX12_many 135 = .ok (.aload_n 0, 1)) ∧ (decode cX12_many 136 = .ok (.getfield 9, 3)) ∧ (decode cX12_many 139 = .ok (.bipush 9, 2)) ∧ (decode cX12_many 141 = .ok (.iaload, 1)) ∧ (decode cX12_many 142 = .ok (.ireturn, 1)) ∧ (decode cX12_many 143 = .ok (.iconst 0, 1)) ∧ (decode cX12_many 144 = .ok (.istore_n 2, 1)) ∧ (decode cX12_many 145 = .ok (.iconst 0, 1)) ∧ (decode cX12_many 146 = .ok (.istore_n 3, 1)) ∧ (decode cX12_many 147 = .ok (.iload_n 3, 1)) := by decide +kernel
theorem gX12_many_5 : (decode cX12_many 148 = .ok (.aload_n 0, 1)) ∧ (decode cX12_many 149 = .ok (.getfield 9, 3)) ∧ (decode cX12_many 152 = .ok (.bipush 9, 2)) ∧ (decode cX12_many 154 = .ok (.iaload, 1)) ∧ (decode cX12_many 155 = .ok (.if_icmp .ge 25, 3)) ∧ (decode cX12_many 158 = .ok (.iload_n 2, 1)) ∧ (decode cX12_many 159 = .ok (.aload_n 0, 1)) ∧ (decode cX12_many 160 = .ok (.iload_n 3, 1)) ∧ (decode cX12_many 161 = .ok (.invokevirtual 305, 3)) ∧ (decode cX12_many 164 = .ok (.ifCond .eq 7, 3)) := by decide +kernel
theorem gX12_many_6 : (decode cX12_many 167 = .ok (.iconst 1, 1)) ∧ (decode cX12_many 168 = .ok (.goto 4, 3)) ∧ (decode cX12_many 171 = .ok (.iconst 0, 1)) ∧ (decode cX12_many 172 = .ok (.iadd, 1)) ∧ (decode cX12_many 173 = .ok (.istore_n 2, 1)) ∧ (decode cX12_many 174 = .ok (.iinc 3 1, 3)) ∧ (decode cX12_many 177 = .ok (.goto (-30), 3)) ∧ (decode cX12_many 180 = .ok (.iload_n 2, 1)) ∧ (decode cX12_many 181 = .ok (.ireturn, 1)) ∧ (decode cX12_many 182 = .ok (.aload_n 0, 1)) := by decide +kernel
theorem gX12_many_7 : (decode cX12_many 183 = .ok (.getfield 9, 3)) ∧ (decode cX12_many 186 = .ok (.bipush 10, 2)) ∧ (decode cX12_many 188 = .ok (.iaload, 1)) ∧ (decode cX12_many 189 = .ok (.ireturn, 1)) ∧ (decode cX12_many 190 = .ok (.aload_n 0, 1)) ∧ (decode cX12_many 191 = .ok (.getfield 9, 3)) ∧ (decode cX12_many 194 = .ok (.bipush 11, 2)) ∧ (decode cX12_many 196 = .ok (.iaload, 1)) ∧ (decode cX12_many 197 = .ok (.ireturn, 1)) ∧ (decode cX12_many 198 = .ok (.aload_n 0, 1)) := by decide +kernel
theorem gX12_many_8 : (decode cX12_many 199 = .ok (.getfield 327, 3)) ∧ (decode cX12_many 202 = .ok (.ireturn, 1)) ∧ (decode cX12_many 203 = .ok (.aload_n 0, 1)) ∧ (decode cX12_many 204 = .ok (.getfield 206, 3)) ∧ (decode cX12_many 207 = .ok (.ireturn, 1)) ∧ (decode cX12_many 208 = .ok (.aload_n 0, 1)) ∧ (decode cX12_many 209 = .ok (.getfield 351, 3)) ∧ (decode cX12_many 212 = .ok (.ireturn, 1)) ∧ (decode cX12_many 213 = .ok (.iconst (-1), 1)) ∧ (decode cX12_many 214 = .ok (.ireturn, 1)) := by decide +kernel
theorem m_1034 : Cond.fieldLink RX12 206 "InquiryBenchModel" "taped" "I" ∈ BW := iB_BW55 _ (List.mem_of_getElem? (i := 3) rfl)
theorem gf_X12_206 (hC : CX p s m meth c y0 b0 mL0 rt0 args) (hy0 : y0.cls = RX12) (hK : KK G s) (hP : va_P G.1 vwCl ws H) (q0 : Nat) {fs : List Value} {v : Value} (he : ws[q0]? = some (a, .inr (12, fs))) (hv : fs[4]? = some v) (hdg : decode b0 pc = .ok (.getfield 206, 3)) (kk : W p l e R s m args below meth c H locs cells slots Q (F0 m (pc + 3) ls (v :: rest))) : W p l e R s m args below meth c H locs cells slots Q (F0 m pc ls (.ref a :: rest)) := by
  obtain ⟨hx, hb, hr, hml, hB, hown, hlocks, hnm⟩ := hC
  rw [hy0] at hown
  exact va_get (ci := 12) (C := RX12) (T := TX12) (N := 41) hx hb hB in_X12 hown hK.1 hP q0 he rfl 4 (by decide) (hB _ m_1034) (fun _ h => h) hv hdg kk
theorem gX12_keep_0 : (decode cX12_keep 0 = .ok (.iconst 0, 1)) ∧ (decode cX12_keep 1 = .ok (.istore_n 1, 1)) ∧ (decode cX12_keep 2 = .ok (.iload_n 1, 1)) ∧ (decode cX12_keep 3 = .ok (.sipush 1662, 3)) ∧ (decode cX12_keep 6 = .ok (.if_icmp .ge 21, 3)) ∧ (decode cX12_keep 9 = .ok (.aload_n 0, 1)) ∧ (decode cX12_keep 10 = .ok (.getfield 13, 3)) ∧ (decode cX12_keep 13 = .ok (.iload_n 1, 1)) ∧ (decode cX12_keep 14 = .ok (.aload_n 0, 1)) ∧ (decode cX12_keep 15 = .ok (.getfield 9, 3)) := by decide +kernel
theorem gX12_keep_1 : (decode cX12_keep 18 = .ok (.iload_n 1, 1)) ∧ (decode cX12_keep 19 = .ok (.iaload, 1)) ∧ (decode cX12_keep 20 = .ok (.iastore, 1)) ∧ (decode cX12_keep 21 = .ok (.iinc 1 1, 3)) ∧ (decode cX12_keep 24 = .ok (.goto (-22), 3)) ∧ (decode cX12_keep 27 = .ok (.aload_n 0, 1)) ∧ (decode cX12_keep 28 = .ok (.iconst 1, 1)) ∧ (decode cX12_keep 29 = .ok (.putfield 383, 3)) ∧ (decode cX12_keep 32 = .ok (.iconst 1, 1)) ∧ (decode cX12_keep 33 = .ok (.ireturn, 1)) := by decide +kernel
theorem m_1032 : Cond.fieldLink RX12 383 "InquiryBenchModel" "hasKept" "Z" ∈ BW := iB_BW55 _ (List.mem_of_getElem? (i := 1) rfl)
theorem pf_X12_383 (hC : CX p s m meth c y0 b0 mL0 rt0 args) (hy0 : y0.cls = RX12) (hK : KK G s) (hP : va_P G.1 vwCl ws H) (hD : va_D A ws) (hS : va_S A H0 H locs) (q0 : Nat) {fs : List Value} {v : Value} {ws' : va_W} (he : ws[q0]? = some (a, .inr (12, fs))) (hl : 2 < fs.length) (hws : ws.set q0 (a, .inr (12, fs.set 2 v)) = ws') (hn : narrow .boolean v = v) (hfit : fits .boolean v = true) (hdg : decode b0 pc = .ok (.putfield 383, 3)) (kk : ∀ (H1 : Heap) (locs1 : List Loc), va_P G.1 vwCl ws' H1 → va_D A ws' → va_S A H0 H1 locs1 → W p l e R s m args below meth c H1 locs1 cells slots Q (F0 m (pc + 3) ls rest)) : W p l e R s m args below meth c H locs cells slots Q (F0 m pc ls (v :: .ref a :: rest)) := by
  obtain ⟨hx, hb, hr, hml, hB, hown, hlocks, hnm⟩ := hC
  rw [hy0] at hown
  subst hws
  exact va_put (ci := 12) (ty := .boolean) (C := RX12) (T := TX12) (N := 41) hx hb hB in_X12 tyX12 tyX12_ok nmX12 hown hK.1 hP hD hS q0 he rfl 2 (by decide) (hB _ m_1032) (fun _ h => h) rfl (by decide +kernel) hn hfit hl hdg kk
theorem m_1031 : Cond.fieldLink RX12 13 "InquiryBenchModel" "kept" "[I" ∈ BW := iB_BW55 _ (List.mem_of_getElem? (i := 0) rfl)
theorem gf_X12_13 (hC : CX p s m meth c y0 b0 mL0 rt0 args) (hy0 : y0.cls = RX12) (hK : KK G s) (hP : va_P G.1 vwCl ws H) (q0 : Nat) {fs : List Value} {v : Value} (he : ws[q0]? = some (a, .inr (12, fs))) (hv : fs[1]? = some v) (hdg : decode b0 pc = .ok (.getfield 13, 3)) (kk : W p l e R s m args below meth c H locs cells slots Q (F0 m (pc + 3) ls (v :: rest))) : W p l e R s m args below meth c H locs cells slots Q (F0 m pc ls (.ref a :: rest)) := by
  obtain ⟨hx, hb, hr, hml, hB, hown, hlocks, hnm⟩ := hC
  rw [hy0] at hown
  exact va_get (ci := 12) (C := RX12) (T := TX12) (N := 41) hx hb hB in_X12 hown hK.1 hP q0 he rfl 1 (by decide) (hB _ m_1031) (fun _ h => h) hv hdg kk
theorem gX12_again_0 : (decode cX12_again 0 = .ok (.aload_n 0, 1)) ∧ (decode cX12_again 1 = .ok (.getfield 383, 3)) ∧ (decode cX12_again 4 = .ok (.ifCond .ne 6, 3)) ∧ (decode cX12_again 7 = .ok (.bipush (-3), 2)) ∧ (decode cX12_again 9 = .ok (.ireturn, 1)) ∧ (decode cX12_again 10 = .ok (.iconst 0, 1)) ∧ (decode cX12_again 11 = .ok (.istore_n 1, 1)) ∧ (decode cX12_again 12 = .ok (.iload_n 1, 1)) ∧ (decode cX12_again 13 = .ok (.sipush 1662, 3)) ∧ (decode cX12_again 16 = .ok (.if_icmp .ge 21, 3)) := by decide +kernel
theorem gf_X12_383 (hC : CX p s m meth c y0 b0 mL0 rt0 args) (hy0 : y0.cls = RX12) (hK : KK G s) (hP : va_P G.1 vwCl ws H) (q0 : Nat) {fs : List Value} {v : Value} (he : ws[q0]? = some (a, .inr (12, fs))) (hv : fs[2]? = some v) (hdg : decode b0 pc = .ok (.getfield 383, 3)) (kk : W p l e R s m args below meth c H locs cells slots Q (F0 m (pc + 3) ls (v :: rest))) : W p l e R s m args below meth c H locs cells slots Q (F0 m pc ls (.ref a :: rest)) := by
  obtain ⟨hx, hb, hr, hml, hB, hown, hlocks, hnm⟩ := hC
  rw [hy0] at hown
  exact va_get (ci := 12) (C := RX12) (T := TX12) (N := 41) hx hb hB in_X12 hown hK.1 hP q0 he rfl 2 (by decide) (hB _ m_1032) (fun _ h => h) hv hdg kk
theorem gX12_again_2 : (decode cX12_again 37 = .ok (.iconst 1, 1)) ∧ (decode cX12_again 38 = .ok (.ireturn, 1)) := by decide +kernel
theorem gX12_again_1 : (decode cX12_again 19 = .ok (.aload_n 0, 1)) ∧ (decode cX12_again 20 = .ok (.getfield 9, 3)) ∧ (decode cX12_again 23 = .ok (.iload_n 1, 1)) ∧ (decode cX12_again 24 = .ok (.aload_n 0, 1)) ∧ (decode cX12_again 25 = .ok (.getfield 13, 3)) ∧ (decode cX12_again 28 = .ok (.iload_n 1, 1)) ∧ (decode cX12_again 29 = .ok (.iaload, 1)) ∧ (decode cX12_again 30 = .ok (.iastore, 1)) ∧ (decode cX12_again 31 = .ok (.iinc 1 1, 3)) ∧ (decode cX12_again 34 = .ok (.goto (-22), 3)) := by decide +kernel
end WR
theorem rm_12_1_2 {mc ms : Nat} : 1 + 1 ≤ (RM 12 mc ms).frames ∧ 8 + (2 + 11) + 40 * 1 ≤ (RM 12 mc ms).locals := ⟨by show 1 + 1 ≤ 12; decide, by show 8 + (2 + 11) + 40 * 1 ≤ 40 * 12; decide⟩
theorem rm_12_1_1 {mc ms : Nat} : 1 + 1 ≤ (RM 12 mc ms).frames ∧ 8 + (1 + 11) + 40 * 1 ≤ (RM 12 mc ms).locals := ⟨by show 1 + 1 ≤ 12; decide, by show 8 + (1 + 11) + 40 * 1 ≤ 40 * 12; decide⟩
theorem rm_12_3_6 {mc ms : Nat} : 3 + 1 ≤ (RM 12 mc ms).frames ∧ 8 + (6 + 11) + 40 * 3 ≤ (RM 12 mc ms).locals := ⟨by show 3 + 1 ≤ 12; decide, by show 8 + (6 + 11) + 40 * 3 ≤ 40 * 12; decide⟩
theorem rm_14_4_5 {mc ms : Nat} : 4 + 1 ≤ (RM 14 mc ms).frames ∧ 8 + (5 + 11) + 40 * 4 ≤ (RM 14 mc ms).locals := ⟨by show 4 + 1 ≤ 14; decide, by show 8 + (5 + 11) + 40 * 4 ≤ 40 * 14; decide⟩
theorem rm_14_12_5 {mc ms : Nat} : 12 + 1 ≤ (RM 14 mc ms).frames ∧ 8 + (5 + 11) + 40 * 12 ≤ (RM 14 mc ms).locals := ⟨by show 12 + 1 ≤ 14; decide, by show 8 + (5 + 11) + 40 * 12 ≤ 40 * 14; decide⟩
theorem rm_14_6_5 {mc ms : Nat} : 6 + 1 ≤ (RM 14 mc ms).frames ∧ 8 + (5 + 11) + 40 * 6 ≤ (RM 14 mc ms).locals := ⟨by show 6 + 1 ≤ 14; decide, by show 8 + (5 + 11) + 40 * 6 ≤ 40 * 14; decide⟩
theorem rm_14_8_5 {mc ms : Nat} : 8 + 1 ≤ (RM 14 mc ms).frames ∧ 8 + (5 + 11) + 40 * 8 ≤ (RM 14 mc ms).locals := ⟨by show 8 + 1 ≤ 14; decide, by show 8 + (5 + 11) + 40 * 8 ≤ 40 * 14; decide⟩
theorem rm_15_1_2 {mc ms : Nat} : 1 + 1 ≤ (RM 15 mc ms).frames ∧ 8 + (2 + 11) + 40 * 1 ≤ (RM 15 mc ms).locals := ⟨by show 1 + 1 ≤ 15; decide, by show 8 + (2 + 11) + 40 * 1 ≤ 40 * 15; decide⟩
theorem rm_15_14_3 {mc ms : Nat} : 14 + 1 ≤ (RM 15 mc ms).frames ∧ 8 + (3 + 11) + 40 * 14 ≤ (RM 15 mc ms).locals := ⟨by show 14 + 1 ≤ 15; decide, by show 8 + (3 + 11) + 40 * 14 ≤ 40 * 15; decide⟩
theorem rm_16_1_2 {mc ms : Nat} : 1 + 1 ≤ (RM 16 mc ms).frames ∧ 8 + (2 + 11) + 40 * 1 ≤ (RM 16 mc ms).locals := ⟨by show 1 + 1 ≤ 16; decide, by show 8 + (2 + 11) + 40 * 1 ≤ 40 * 16; decide⟩
theorem rm_16_15_6 {mc ms : Nat} : 15 + 1 ≤ (RM 16 mc ms).frames ∧ 8 + (6 + 11) + 40 * 15 ≤ (RM 16 mc ms).locals := ⟨by show 15 + 1 ≤ 16; decide, by show 8 + (6 + 11) + 40 * 15 ≤ 40 * 16; decide⟩
theorem rm_17_1_2 {mc ms : Nat} : 1 + 1 ≤ (RM 17 mc ms).frames ∧ 8 + (2 + 11) + 40 * 1 ≤ (RM 17 mc ms).locals := ⟨by show 1 + 1 ≤ 17; decide, by show 8 + (2 + 11) + 40 * 1 ≤ 40 * 17; decide⟩
theorem rm_17_16_5 {mc ms : Nat} : 16 + 1 ≤ (RM 17 mc ms).frames ∧ 8 + (5 + 11) + 40 * 16 ≤ (RM 17 mc ms).locals := ⟨by show 16 + 1 ≤ 17; decide, by show 8 + (5 + 11) + 40 * 16 ≤ 40 * 17; decide⟩
theorem rm_18_1_2 {mc ms : Nat} : 1 + 1 ≤ (RM 18 mc ms).frames ∧ 8 + (2 + 11) + 40 * 1 ≤ (RM 18 mc ms).locals := ⟨by show 1 + 1 ≤ 18; decide, by show 8 + (2 + 11) + 40 * 1 ≤ 40 * 18; decide⟩
theorem rm_18_17_6 {mc ms : Nat} : 17 + 1 ≤ (RM 18 mc ms).frames ∧ 8 + (6 + 11) + 40 * 17 ≤ (RM 18 mc ms).locals := ⟨by show 17 + 1 ≤ 18; decide, by show 8 + (6 + 11) + 40 * 17 ≤ 40 * 18; decide⟩
theorem rm_19_1_2 {mc ms : Nat} : 1 + 1 ≤ (RM 19 mc ms).frames ∧ 8 + (2 + 11) + 40 * 1 ≤ (RM 19 mc ms).locals := ⟨by show 1 + 1 ≤ 19; decide, by show 8 + (2 + 11) + 40 * 1 ≤ 40 * 19; decide⟩
theorem rm_19_18_5 {mc ms : Nat} : 18 + 1 ≤ (RM 19 mc ms).frames ∧ 8 + (5 + 11) + 40 * 18 ≤ (RM 19 mc ms).locals := ⟨by show 18 + 1 ≤ 19; decide, by show 8 + (5 + 11) + 40 * 18 ≤ 40 * 19; decide⟩
theorem rm_20_1_2 {mc ms : Nat} : 1 + 1 ≤ (RM 20 mc ms).frames ∧ 8 + (2 + 11) + 40 * 1 ≤ (RM 20 mc ms).locals := ⟨by show 1 + 1 ≤ 20; decide, by show 8 + (2 + 11) + 40 * 1 ≤ 40 * 20; decide⟩
theorem rm_20_19_6 {mc ms : Nat} : 19 + 1 ≤ (RM 20 mc ms).frames ∧ 8 + (6 + 11) + 40 * 19 ≤ (RM 20 mc ms).locals := ⟨by show 19 + 1 ≤ 20; decide, by show 8 + (6 + 11) + 40 * 19 ≤ 40 * 20; decide⟩
theorem rm_24_1_2 {mc ms : Nat} : 1 + 1 ≤ (RM 24 mc ms).frames ∧ 8 + (2 + 11) + 40 * 1 ≤ (RM 24 mc ms).locals := ⟨by show 1 + 1 ≤ 24; decide, by show 8 + (2 + 11) + 40 * 1 ≤ 40 * 24; decide⟩
theorem rm_24_1_1 {mc ms : Nat} : 1 + 1 ≤ (RM 24 mc ms).frames ∧ 8 + (1 + 11) + 40 * 1 ≤ (RM 24 mc ms).locals := ⟨by show 1 + 1 ≤ 24; decide, by show 8 + (1 + 11) + 40 * 1 ≤ 40 * 24; decide⟩
theorem rm_24_15_6 {mc ms : Nat} : 15 + 1 ≤ (RM 24 mc ms).frames ∧ 8 + (6 + 11) + 40 * 15 ≤ (RM 24 mc ms).locals := ⟨by show 15 + 1 ≤ 24; decide, by show 8 + (6 + 11) + 40 * 15 ≤ 40 * 24; decide⟩
theorem rm_26_16_5 {mc ms : Nat} : 16 + 1 ≤ (RM 26 mc ms).frames ∧ 8 + (5 + 11) + 40 * 16 ≤ (RM 26 mc ms).locals := ⟨by show 16 + 1 ≤ 26; decide, by show 8 + (5 + 11) + 40 * 16 ≤ 40 * 26; decide⟩
theorem rm_26_18_5 {mc ms : Nat} : 18 + 1 ≤ (RM 26 mc ms).frames ∧ 8 + (5 + 11) + 40 * 18 ≤ (RM 26 mc ms).locals := ⟨by show 18 + 1 ≤ 26; decide, by show 8 + (5 + 11) + 40 * 18 ≤ 40 * 26; decide⟩
theorem rm_26_24_5 {mc ms : Nat} : 24 + 1 ≤ (RM 26 mc ms).frames ∧ 8 + (5 + 11) + 40 * 24 ≤ (RM 26 mc ms).locals := ⟨by show 24 + 1 ≤ 26; decide, by show 8 + (5 + 11) + 40 * 24 ≤ 40 * 26; decide⟩
theorem rm_26_20_5 {mc ms : Nat} : 20 + 1 ≤ (RM 26 mc ms).frames ∧ 8 + (5 + 11) + 40 * 20 ≤ (RM 26 mc ms).locals := ⟨by show 20 + 1 ≤ 26; decide, by show 8 + (5 + 11) + 40 * 20 ≤ 40 * 26; decide⟩
theorem rm_27_1_2 {mc ms : Nat} : 1 + 1 ≤ (RM 27 mc ms).frames ∧ 8 + (2 + 11) + 40 * 1 ≤ (RM 27 mc ms).locals := ⟨by show 1 + 1 ≤ 27; decide, by show 8 + (2 + 11) + 40 * 1 ≤ 40 * 27; decide⟩
theorem rm_27_26_3 {mc ms : Nat} : 26 + 1 ≤ (RM 27 mc ms).frames ∧ 8 + (3 + 11) + 40 * 26 ≤ (RM 27 mc ms).locals := ⟨by show 26 + 1 ≤ 27; decide, by show 8 + (3 + 11) + 40 * 26 ≤ 40 * 27; decide⟩
theorem rm_28_1_2 {mc ms : Nat} : 1 + 1 ≤ (RM 28 mc ms).frames ∧ 8 + (2 + 11) + 40 * 1 ≤ (RM 28 mc ms).locals := ⟨by show 1 + 1 ≤ 28; decide, by show 8 + (2 + 11) + 40 * 1 ≤ 40 * 28; decide⟩
theorem rm_28_27_6 {mc ms : Nat} : 27 + 1 ≤ (RM 28 mc ms).frames ∧ 8 + (6 + 11) + 40 * 27 ≤ (RM 28 mc ms).locals := ⟨by show 27 + 1 ≤ 28; decide, by show 8 + (6 + 11) + 40 * 27 ≤ 40 * 28; decide⟩
theorem rm_29_1_2 {mc ms : Nat} : 1 + 1 ≤ (RM 29 mc ms).frames ∧ 8 + (2 + 11) + 40 * 1 ≤ (RM 29 mc ms).locals := ⟨by show 1 + 1 ≤ 29; decide, by show 8 + (2 + 11) + 40 * 1 ≤ 40 * 29; decide⟩
theorem rm_29_28_5 {mc ms : Nat} : 28 + 1 ≤ (RM 29 mc ms).frames ∧ 8 + (5 + 11) + 40 * 28 ≤ (RM 29 mc ms).locals := ⟨by show 28 + 1 ≤ 29; decide, by show 8 + (5 + 11) + 40 * 28 ≤ 40 * 29; decide⟩
theorem rm_30_1_2 {mc ms : Nat} : 1 + 1 ≤ (RM 30 mc ms).frames ∧ 8 + (2 + 11) + 40 * 1 ≤ (RM 30 mc ms).locals := ⟨by show 1 + 1 ≤ 30; decide, by show 8 + (2 + 11) + 40 * 1 ≤ 40 * 30; decide⟩
theorem rm_30_29_6 {mc ms : Nat} : 29 + 1 ≤ (RM 30 mc ms).frames ∧ 8 + (6 + 11) + 40 * 29 ≤ (RM 30 mc ms).locals := ⟨by show 29 + 1 ≤ 30; decide, by show 8 + (6 + 11) + 40 * 29 ≤ 40 * 30; decide⟩
theorem rm_31_28_5 {mc ms : Nat} : 28 + 1 ≤ (RM 31 mc ms).frames ∧ 8 + (5 + 11) + 40 * 28 ≤ (RM 31 mc ms).locals := ⟨by show 28 + 1 ≤ 31; decide, by show 8 + (5 + 11) + 40 * 28 ≤ 40 * 31; decide⟩
theorem rm_31_26_3 {mc ms : Nat} : 26 + 1 ≤ (RM 31 mc ms).frames ∧ 8 + (3 + 11) + 40 * 26 ≤ (RM 31 mc ms).locals := ⟨by show 26 + 1 ≤ 31; decide, by show 8 + (3 + 11) + 40 * 26 ≤ 40 * 31; decide⟩
theorem rm_32_1_2 {mc ms : Nat} : 1 + 1 ≤ (RM 32 mc ms).frames ∧ 8 + (2 + 11) + 40 * 1 ≤ (RM 32 mc ms).locals := ⟨by show 1 + 1 ≤ 32; decide, by show 8 + (2 + 11) + 40 * 1 ≤ 40 * 32; decide⟩
theorem rm_32_31_6 {mc ms : Nat} : 31 + 1 ≤ (RM 32 mc ms).frames ∧ 8 + (6 + 11) + 40 * 31 ≤ (RM 32 mc ms).locals := ⟨by show 31 + 1 ≤ 32; decide, by show 8 + (6 + 11) + 40 * 31 ≤ 40 * 32; decide⟩
theorem rm_33_1_2 {mc ms : Nat} : 1 + 1 ≤ (RM 33 mc ms).frames ∧ 8 + (2 + 11) + 40 * 1 ≤ (RM 33 mc ms).locals := ⟨by show 1 + 1 ≤ 33; decide, by show 8 + (2 + 11) + 40 * 1 ≤ 40 * 33; decide⟩
theorem rm_33_32_5 {mc ms : Nat} : 32 + 1 ≤ (RM 33 mc ms).frames ∧ 8 + (5 + 11) + 40 * 32 ≤ (RM 33 mc ms).locals := ⟨by show 32 + 1 ≤ 33; decide, by show 8 + (5 + 11) + 40 * 32 ≤ 40 * 33; decide⟩
theorem rm_34_1_2 {mc ms : Nat} : 1 + 1 ≤ (RM 34 mc ms).frames ∧ 8 + (2 + 11) + 40 * 1 ≤ (RM 34 mc ms).locals := ⟨by show 1 + 1 ≤ 34; decide, by show 8 + (2 + 11) + 40 * 1 ≤ 40 * 34; decide⟩
theorem rm_34_33_6 {mc ms : Nat} : 33 + 1 ≤ (RM 34 mc ms).frames ∧ 8 + (6 + 11) + 40 * 33 ≤ (RM 34 mc ms).locals := ⟨by show 33 + 1 ≤ 34; decide, by show 8 + (6 + 11) + 40 * 33 ≤ 40 * 34; decide⟩
theorem rm_36_1_2 {mc ms : Nat} : 1 + 1 ≤ (RM 36 mc ms).frames ∧ 8 + (2 + 11) + 40 * 1 ≤ (RM 36 mc ms).locals := ⟨by show 1 + 1 ≤ 36; decide, by show 8 + (2 + 11) + 40 * 1 ≤ 40 * 36; decide⟩
theorem rm_36_1_1 {mc ms : Nat} : 1 + 1 ≤ (RM 36 mc ms).frames ∧ 8 + (1 + 11) + 40 * 1 ≤ (RM 36 mc ms).locals := ⟨by show 1 + 1 ≤ 36; decide, by show 8 + (1 + 11) + 40 * 1 ≤ 40 * 36; decide⟩
theorem rm_36_27_6 {mc ms : Nat} : 27 + 1 ≤ (RM 36 mc ms).frames ∧ 8 + (6 + 11) + 40 * 27 ≤ (RM 36 mc ms).locals := ⟨by show 27 + 1 ≤ 36; decide, by show 8 + (6 + 11) + 40 * 27 ≤ 40 * 36; decide⟩
theorem rm_38_28_5 {mc ms : Nat} : 28 + 1 ≤ (RM 38 mc ms).frames ∧ 8 + (5 + 11) + 40 * 28 ≤ (RM 38 mc ms).locals := ⟨by show 28 + 1 ≤ 38; decide, by show 8 + (5 + 11) + 40 * 28 ≤ 40 * 38; decide⟩
theorem rm_38_36_5 {mc ms : Nat} : 36 + 1 ≤ (RM 38 mc ms).frames ∧ 8 + (5 + 11) + 40 * 36 ≤ (RM 38 mc ms).locals := ⟨by show 36 + 1 ≤ 38; decide, by show 8 + (5 + 11) + 40 * 36 ≤ 40 * 38; decide⟩
theorem rm_38_30_5 {mc ms : Nat} : 30 + 1 ≤ (RM 38 mc ms).frames ∧ 8 + (5 + 11) + 40 * 30 ≤ (RM 38 mc ms).locals := ⟨by show 30 + 1 ≤ 38; decide, by show 8 + (5 + 11) + 40 * 30 ≤ 40 * 38; decide⟩
theorem rm_38_32_5 {mc ms : Nat} : 32 + 1 ≤ (RM 38 mc ms).frames ∧ 8 + (5 + 11) + 40 * 32 ≤ (RM 38 mc ms).locals := ⟨by show 32 + 1 ≤ 38; decide, by show 8 + (5 + 11) + 40 * 32 ≤ 40 * 38; decide⟩
theorem rm_38_34_5 {mc ms : Nat} : 34 + 1 ≤ (RM 38 mc ms).frames ∧ 8 + (5 + 11) + 40 * 34 ≤ (RM 38 mc ms).locals := ⟨by show 34 + 1 ≤ 38; decide, by show 8 + (5 + 11) + 40 * 34 ≤ 40 * 38; decide⟩
theorem rm_39_1_2 {mc ms : Nat} : 1 + 1 ≤ (RM 39 mc ms).frames ∧ 8 + (2 + 11) + 40 * 1 ≤ (RM 39 mc ms).locals := ⟨by show 1 + 1 ≤ 39; decide, by show 8 + (2 + 11) + 40 * 1 ≤ 40 * 39; decide⟩
theorem rm_40_39_6 {mc ms : Nat} : 39 + 1 ≤ (RM 40 mc ms).frames ∧ 8 + (6 + 11) + 40 * 39 ≤ (RM 40 mc ms).locals := ⟨by show 39 + 1 ≤ 40; decide, by show 8 + (6 + 11) + 40 * 39 ≤ 40 * 40; decide⟩
theorem rm_42_1_2 {mc ms : Nat} : 1 + 1 ≤ (RM 42 mc ms).frames ∧ 8 + (2 + 11) + 40 * 1 ≤ (RM 42 mc ms).locals := ⟨by show 1 + 1 ≤ 42; decide, by show 8 + (2 + 11) + 40 * 1 ≤ 40 * 42; decide⟩
theorem rm_42_39_6 {mc ms : Nat} : 39 + 1 ≤ (RM 42 mc ms).frames ∧ 8 + (6 + 11) + 40 * 39 ≤ (RM 42 mc ms).locals := ⟨by show 39 + 1 ≤ 42; decide, by show 8 + (6 + 11) + 40 * 39 ≤ 40 * 42; decide⟩
theorem rm_43_1_2 {mc ms : Nat} : 1 + 1 ≤ (RM 43 mc ms).frames ∧ 8 + (2 + 11) + 40 * 1 ≤ (RM 43 mc ms).locals := ⟨by show 1 + 1 ≤ 43; decide, by show 8 + (2 + 11) + 40 * 1 ≤ 40 * 43; decide⟩
theorem rm_43_42_5 {mc ms : Nat} : 42 + 1 ≤ (RM 43 mc ms).frames ∧ 8 + (5 + 11) + 40 * 42 ≤ (RM 43 mc ms).locals := ⟨by show 42 + 1 ≤ 43; decide, by show 8 + (5 + 11) + 40 * 42 ≤ 40 * 43; decide⟩
theorem rm_44_1_2 {mc ms : Nat} : 1 + 1 ≤ (RM 44 mc ms).frames ∧ 8 + (2 + 11) + 40 * 1 ≤ (RM 44 mc ms).locals := ⟨by show 1 + 1 ≤ 44; decide, by show 8 + (2 + 11) + 40 * 1 ≤ 40 * 44; decide⟩
theorem rm_44_43_6 {mc ms : Nat} : 43 + 1 ≤ (RM 44 mc ms).frames ∧ 8 + (6 + 11) + 40 * 43 ≤ (RM 44 mc ms).locals := ⟨by show 43 + 1 ≤ 44; decide, by show 8 + (6 + 11) + 40 * 43 ≤ 40 * 44; decide⟩
theorem rm_45_1_2 {mc ms : Nat} : 1 + 1 ≤ (RM 45 mc ms).frames ∧ 8 + (2 + 11) + 40 * 1 ≤ (RM 45 mc ms).locals := ⟨by show 1 + 1 ≤ 45; decide, by show 8 + (2 + 11) + 40 * 1 ≤ 40 * 45; decide⟩
theorem rm_45_40_5 {mc ms : Nat} : 40 + 1 ≤ (RM 45 mc ms).frames ∧ 8 + (5 + 11) + 40 * 40 ≤ (RM 45 mc ms).locals := ⟨by show 40 + 1 ≤ 45; decide, by show 8 + (5 + 11) + 40 * 40 ≤ 40 * 45; decide⟩
theorem rm_45_14_3 {mc ms : Nat} : 14 + 1 ≤ (RM 45 mc ms).frames ∧ 8 + (3 + 11) + 40 * 14 ≤ (RM 45 mc ms).locals := ⟨by show 14 + 1 ≤ 45; decide, by show 8 + (3 + 11) + 40 * 14 ≤ 40 * 45; decide⟩
theorem rm_46_1_2 {mc ms : Nat} : 1 + 1 ≤ (RM 46 mc ms).frames ∧ 8 + (2 + 11) + 40 * 1 ≤ (RM 46 mc ms).locals := ⟨by show 1 + 1 ≤ 46; decide, by show 8 + (2 + 11) + 40 * 1 ≤ 40 * 46; decide⟩
theorem rm_46_45_6 {mc ms : Nat} : 45 + 1 ≤ (RM 46 mc ms).frames ∧ 8 + (6 + 11) + 40 * 45 ≤ (RM 46 mc ms).locals := ⟨by show 45 + 1 ≤ 46; decide, by show 8 + (6 + 11) + 40 * 45 ≤ 40 * 46; decide⟩
theorem rm_48_1_2 {mc ms : Nat} : 1 + 1 ≤ (RM 48 mc ms).frames ∧ 8 + (2 + 11) + 40 * 1 ≤ (RM 48 mc ms).locals := ⟨by show 1 + 1 ≤ 48; decide, by show 8 + (2 + 11) + 40 * 1 ≤ 40 * 48; decide⟩
theorem rm_48_1_1 {mc ms : Nat} : 1 + 1 ≤ (RM 48 mc ms).frames ∧ 8 + (1 + 11) + 40 * 1 ≤ (RM 48 mc ms).locals := ⟨by show 1 + 1 ≤ 48; decide, by show 8 + (1 + 11) + 40 * 1 ≤ 40 * 48; decide⟩
theorem rm_48_39_6 {mc ms : Nat} : 39 + 1 ≤ (RM 48 mc ms).frames ∧ 8 + (6 + 11) + 40 * 39 ≤ (RM 48 mc ms).locals := ⟨by show 39 + 1 ≤ 48; decide, by show 8 + (6 + 11) + 40 * 39 ≤ 40 * 48; decide⟩
theorem rm_50_40_5 {mc ms : Nat} : 40 + 1 ≤ (RM 50 mc ms).frames ∧ 8 + (5 + 11) + 40 * 40 ≤ (RM 50 mc ms).locals := ⟨by show 40 + 1 ≤ 50; decide, by show 8 + (5 + 11) + 40 * 40 ≤ 40 * 50; decide⟩
theorem rm_50_42_5 {mc ms : Nat} : 42 + 1 ≤ (RM 50 mc ms).frames ∧ 8 + (5 + 11) + 40 * 42 ≤ (RM 50 mc ms).locals := ⟨by show 42 + 1 ≤ 50; decide, by show 8 + (5 + 11) + 40 * 42 ≤ 40 * 50; decide⟩
theorem rm_50_48_5 {mc ms : Nat} : 48 + 1 ≤ (RM 50 mc ms).frames ∧ 8 + (5 + 11) + 40 * 48 ≤ (RM 50 mc ms).locals := ⟨by show 48 + 1 ≤ 50; decide, by show 8 + (5 + 11) + 40 * 48 ≤ 40 * 50; decide⟩
theorem rm_50_44_5 {mc ms : Nat} : 44 + 1 ≤ (RM 50 mc ms).frames ∧ 8 + (5 + 11) + 40 * 44 ≤ (RM 50 mc ms).locals := ⟨by show 44 + 1 ≤ 50; decide, by show 8 + (5 + 11) + 40 * 44 ≤ 40 * 50; decide⟩
theorem rm_50_46_5 {mc ms : Nat} : 46 + 1 ≤ (RM 50 mc ms).frames ∧ 8 + (5 + 11) + 40 * 46 ≤ (RM 50 mc ms).locals := ⟨by show 46 + 1 ≤ 50; decide, by show 8 + (5 + 11) + 40 * 46 ≤ 40 * 50; decide⟩
theorem rm_60_2_1 {mc ms : Nat} : 2 + 1 ≤ (RM 60 mc ms).frames ∧ 8 + (1 + 11) + 40 * 2 ≤ (RM 60 mc ms).locals := ⟨by show 2 + 1 ≤ 60; decide, by show 8 + (1 + 11) + 40 * 2 ≤ 40 * 60; decide⟩
theorem rm_60_3_4 {mc ms : Nat} : 3 + 1 ≤ (RM 60 mc ms).frames ∧ 8 + (4 + 11) + 40 * 3 ≤ (RM 60 mc ms).locals := ⟨by show 3 + 1 ≤ 60; decide, by show 8 + (4 + 11) + 40 * 3 ≤ 40 * 60; decide⟩
theorem rm_60_1_3 {mc ms : Nat} : 1 + 1 ≤ (RM 60 mc ms).frames ∧ 8 + (3 + 11) + 40 * 1 ≤ (RM 60 mc ms).locals := ⟨by show 1 + 1 ≤ 60; decide, by show 8 + (3 + 11) + 40 * 1 ≤ 40 * 60; decide⟩
theorem rm_60_14_3 {mc ms : Nat} : 14 + 1 ≤ (RM 60 mc ms).frames ∧ 8 + (3 + 11) + 40 * 14 ≤ (RM 60 mc ms).locals := ⟨by show 14 + 1 ≤ 60; decide, by show 8 + (3 + 11) + 40 * 14 ≤ 40 * 60; decide⟩
theorem dj_0_4__1_2_3 : ∀ i ∈ ([1, 2, 3] : List Nat), i ∉ ([0, 4] : List Nat) := by decide
theorem rm_60_26_3 {mc ms : Nat} : 26 + 1 ≤ (RM 60 mc ms).frames ∧ 8 + (3 + 11) + 40 * 26 ≤ (RM 60 mc ms).locals := ⟨by show 26 + 1 ≤ 60; decide, by show 8 + (3 + 11) + 40 * 26 ≤ 40 * 60; decide⟩
theorem rm_60_38_3 {mc ms : Nat} : 38 + 1 ≤ (RM 60 mc ms).frames ∧ 8 + (3 + 11) + 40 * 38 ≤ (RM 60 mc ms).locals := ⟨by show 38 + 1 ≤ 60; decide, by show 8 + (3 + 11) + 40 * 38 ≤ 40 * 60; decide⟩
theorem rm_60_50_3 {mc ms : Nat} : 50 + 1 ≤ (RM 60 mc ms).frames ∧ 8 + (3 + 11) + 40 * 50 ≤ (RM 60 mc ms).locals := ⟨by show 50 + 1 ≤ 60; decide, by show 8 + (3 + 11) + 40 * 50 ≤ 40 * 60; decide⟩
theorem rm_10_5_4 {mc ms : Nat} : 5 + 1 ≤ (RM 10 mc ms).frames ∧ 8 + (4 + 11) + 40 * 5 ≤ (RM 10 mc ms).locals := ⟨by show 5 + 1 ≤ 10; decide, by show 8 + (4 + 11) + 40 * 5 ≤ 40 * 10; decide⟩
def K_m_kindOn (l : Launch) (G : GG) (h0 : Nat) (jt : Nat) (nw : Nat) (nk : Nat) (mhasKept : Int32) (nt : Nat) (mtaped : Int32) (nr : Nat) (mrowMany : Int32) (mroundOf : Int32) (mroundFrom : Int32) (mouts : Int32) (nm : Nat) (mfromHour : Int32) (mtoHour : Int32) (ns : Nat) (mfrom : Int32) (mto : Int32) (msort : Int32) (misFault : Int32) (mdeep : Int32) (mcoded : Int32) (mlines : Int32) (nl : Nat) (nc : Nat) (nF : Nat) (np : Nat) (ntr : Nat) (nb : Nat) (mbestCost : Int32) (nso : Nat) (nsi : Nat) (nit : Nat) (nsh : Nat) (nsf : Nat) (nss : Nat) (nrc : Nat) (mtraced : Int32) (mdealer : Int32) (mnumber : Int32) (mwhose : Int32) (msize : Int32) (misParted : Int32) (fnw : Nat → Int32) (fnsh : Nat → Int32) (fnsf : Nat → Int32) : Prop := MP l G yX12_kindOn cX12_kindOn 4 (some .int) 3 [.ref h0, .int (nI jt)] [(h0, oX12 nw nk mhasKept nt mtaped nr mrowMany mroundOf mroundFrom mouts nm mfromHour mtoHour ns mfrom mto msort misFault mdeep mcoded mlines nl nc nF np ntr nb mbestCost nso nsi nit nsh nsf nss nrc mtraced mdealer mnumber mwhose msize misParted), (nw, iA G 1662 fnw), (nsh, iA G 4 fnsh), (nsf, iA G 4 fnsf)] (fun r : Int32 => r = (-1) ∨ (r = 1 ∧ KO1 (fnsh jt) (fnsf jt) 1 12) ∨ (r = 2 ∧ KO1 (fnsh jt) (fnsf jt) 1 12) ∨ (r = 3 ∧ KO1 (fnsh jt) (fnsf jt) 1 12) ∨ (r = 4 ∧ KO1 (fnsh jt) (fnsf jt) 2 16) ∨ (r = 5 ∧ KO1 (fnsh jt) (fnsf jt) 2 16) ∨ (r = 6 ∧ KO1 (fnsh jt) (fnsf jt) 3 12))
set_option maxHeartbeats 4000000 in
set_option maxRecDepth 100000 in
theorem m_kindOn (l : Launch) (G : GG) (h0 : Nat) (jt : Nat) (nw : Nat) (nk : Nat) (mhasKept : Int32) (nt : Nat) (mtaped : Int32) (nr : Nat) (mrowMany : Int32) (mroundOf : Int32) (mroundFrom : Int32) (mouts : Int32) (nm : Nat) (mfromHour : Int32) (mtoHour : Int32) (ns : Nat) (mfrom : Int32) (mto : Int32) (msort : Int32) (misFault : Int32) (mdeep : Int32) (mcoded : Int32) (mlines : Int32) (nl : Nat) (nc : Nat) (nF : Nat) (np : Nat) (ntr : Nat) (nb : Nat) (mbestCost : Int32) (nso : Nat) (nsi : Nat) (nit : Nat) (nsh : Nat) (nsf : Nat) (nss : Nat) (nrc : Nat) (mtraced : Int32) (mdealer : Int32) (mnumber : Int32) (mwhose : Int32) (msize : Int32) (misParted : Int32) (fnw : Nat → Int32) (fnsh : Nat → Int32) (fnsf : Nat → Int32) (hjt : jt < 4) (hN : NI fnw) : K_m_kindOn l G h0 jt nw nk mhasKept nt mtaped nr mrowMany mroundOf mroundFrom mouts nm mfromHour mtoHour ns mfrom mto msort misFault mdeep mcoded mlines nl nc nF np ntr nb mbestCost nso nsi nit nsh nsf nss nrc mtraced mdealer mnumber mwhose msize misParted fnw fnsh fnsf := by
  refine MP.start (by decide +kernel) (Nat.le_of_ble_eq_true rfl) ?_
  intro p e s m below meth c ls hC hK hP hD hl
  refine absQ (fun Q0 hQ0 => ?_)
  have hl : lv_has ls 4 [(0, .ref h0), (1, .int (nI jt))] := hl
  refine Kan8 hC (fun hx hb hr hml hB hown hlocks hnm => ?_)
  obtain ⟨kq, hkq, ekq⟩ := NI.nat hN (i := 5) (B := 12) (by decide +kernel) (by decide)
  obtain ⟨k8, hk8, ek8⟩ := NI.nat hN (i := 8) (B := 16) (by decide +kernel) (by decide)
  obtain ⟨k9, hk9, ek9⟩ := NI.nat hN (i := 9) (B := 12) (by decide +kernel) (by decide)
  refine lv_aload_n hx hb gX12_kindOn_0.1 rfl (lv_at0 hl) ?_
  refine gf_X12_75 hC rfl hK hP 0 rfl rfl gX12_kindOn_0.2.1 ?_
  refine lv_iload_n hx hb gX12_kindOn_0.2.2.1 rfl (lv_at1 hl) ?_
  refine aldN hC hK hP 3 rfl (k := jt) (by omega) (Nat.le_of_ble_eq_true rfl) (v := fnsf jt) rfl gX12_kindOn_0.2.2.2.1 ?_
  refine lv_topi (fun x5976 ex5976 => ?_)
  refine lv_istore_n (lv' := [(2, .int x5976), (0, .ref h0), (1, .int (nI jt))]) hx hb gX12_kindOn_0.2.2.2.2.1 rfl hl (by decide) rfl (fun ls hl => ?_)
  refine lv_aload_n hx hb gX12_kindOn_0.2.2.2.2.2.1 rfl (lv_at1 hl) ?_
  refine gf_X12_72 hC rfl hK hP 0 rfl rfl gX12_kindOn_0.2.2.2.2.2.2.1 ?_
  refine lv_iload_n hx hb gX12_kindOn_0.2.2.2.2.2.2.2.1 rfl (lv_at2 hl) ?_
  refine aldN hC hK hP 2 rfl (k := jt) (by omega) (Nat.le_of_ble_eq_true rfl) (v := fnsh jt) rfl gX12_kindOn_0.2.2.2.2.2.2.2.2.1 ?_
  refine lv_topi (fun x5977 ex5977 => ?_)
  by_cases c_13_5978 : x5977 = 1
  · refine lv_tableIn (tgt := 40) hx hb gX12_kindOn_0.2.2.2.2.2.2.2.2.2 (by rw [c_13_5978]; decide) (by rw [c_13_5978]; decide) (by rw [c_13_5978]; rfl) (by decide) ?_
    refine lv_aload_n hx hb gX12_kindOn_1.1 rfl (lv_at1 hl) ?_
    refine lv_iload_n hx hb gX12_kindOn_1.2.1 rfl (lv_at0 hl) ?_
    refine lv_iconst (v := 5) hx hb gX12_kindOn_1.2.2.1 (by decide) ?_
    refine pV hC hK hl hP hD (m_is l G kq h0 x5976 5 nw nk mhasKept nt mtaped nr mrowMany mroundOf mroundFrom mouts nm mfromHour mtoHour ns mfrom mto msort misFault mdeep mcoded mlines nl nc nF np ntr nb mbestCost nso nsi nit nsh nsf nss nrc mtraced mdealer mnumber mwhose msize misParted fnw (by omega) (ekq) (by omega)) si_X12_120 [0, 1] sm_0_1 fm_0_1 nd_0_1 rfl rfl rfl rfl rfl (Nat.le_of_ble_eq_true rfl) rm_3_2_3 ⟨by first | exact Nat.le_of_ble_eq_true rfl | exact Nat.zero_le _, by first | exact Nat.le_of_ble_eq_true rfl | exact Nat.zero_le _⟩ gX12_kindOn_1.2.2.2.1 (Kors (Keqa fun a5980 => ?_) (Keqa fun a5980 => ?_))
    · refine lv_if_eq (tgt := 73) hx hb gX12_kindOn_1.2.2.2.2.1 (by decide) (fun c9 => absurd c9 (by decide)) (fun _ => ?_)
      refine lv_aload_n hx hb gX12_kindOn_1.2.2.2.2.2.1 rfl (lv_at1 hl) ?_
      refine lv_iload_n hx hb gX12_kindOn_1.2.2.2.2.2.2.1 rfl (lv_at0 hl) ?_
      obtain ⟨jn5981, hjn5981, ek5981⟩ := Hs_nat (by omega) a5980
      refine eqi (x1 := nI jn5981) ek5981 ?_
      refine lv_iconst (v := 1) hx hb gX12_kindOn_1.2.2.2.2.2.2.2.1 (by decide) ?_
      refine pV hC hK hl hP hD (m_paper l G h0 jn5981 1 nw nk mhasKept nt mtaped nr mrowMany mroundOf mroundFrom mouts nm mfromHour mtoHour ns mfrom mto msort misFault mdeep mcoded mlines nl nc nF np ntr nb mbestCost nso nsi nit nsh nsf nss nrc mtraced mdealer mnumber mwhose msize misParted fnw (by omega) (by omega)) si_X12_88 [0, 1] sm_0_1 fm_0_1 nd_0_1 rfl rfl rfl rfl rfl (Nat.le_of_ble_eq_true rfl) rm_3_1_3 ⟨by first | exact Nat.le_of_ble_eq_true rfl | exact Nat.zero_le _, by first | exact Nat.le_of_ble_eq_true rfl | exact Nat.zero_le _⟩ gX12_kindOn_1.2.2.2.2.2.2.2.2.1 (Keqr ?_)
      refine lv_iconst (v := 1) hx hb gX12_kindOn_1.2.2.2.2.2.2.2.2.2 (by decide) ?_
      refine lv_aload_n hx hb gX12_kindOn_2.1 rfl (lv_at1 hl) ?_
      refine lv_iload_n hx hb gX12_kindOn_2.2.1 rfl (lv_at0 hl) ?_
      obtain ⟨jn5984, hjn5984, ek5984⟩ := Hs_nat (by omega) a5980
      refine eqi (x1 := nI jn5984) ek5984 ?_
      refine lv_iconst (v := 0) hx hb gX12_kindOn_2.2.2.1 (by decide) ?_
      refine pV hC hK hl hP hD (m_paper l G h0 jn5984 0 nw nk mhasKept nt mtaped nr mrowMany mroundOf mroundFrom mouts nm mfromHour mtoHour ns mfrom mto msort misFault mdeep mcoded mlines nl nc nF np ntr nb mbestCost nso nsi nit nsh nsf nss nrc mtraced mdealer mnumber mwhose msize misParted fnw (by omega) (by omega)) si_X12_88 [0, 1] sm_0_1 fm_0_1 nd_0_1 rfl rfl rfl rfl rfl (Nat.le_of_ble_eq_true rfl) rm_3_1_3 ⟨by first | exact Nat.le_of_ble_eq_true rfl | exact Nat.zero_le _, by first | exact Nat.le_of_ble_eq_true rfl | exact Nat.zero_le _⟩ gX12_kindOn_2.2.2.2.1 (Keqr ?_)
      refine lv_ishl hx hb gX12_kindOn_2.2.2.2.2.1 ?_
      refine lv_iconst (v := (-1)) hx hb gX12_kindOn_2.2.2.2.2.2.1 (by decide) ?_
      refine lv_ixor hx hb gX12_kindOn_2.2.2.2.2.2.2.1 ?_
      refine lv_iand hx hb gX12_kindOn_2.2.2.2.2.2.2.2.1 ?_
      refine lv_if_eq (tgt := 73) hx hb gX12_kindOn_2.2.2.2.2.2.2.2.2.1 (by decide) (fun c_66_5987 => ?_) (fun c_66_5987 => ?_)
      · refine lv_iconst (v := 0) hx hb gX12_kindOn_3.2.1 (by decide) ?_
        refine lv_istore_n (lv' := [(3, .int 0), (2, .int x5976), (0, .ref h0), (1, .int (nI jt))]) hx hb gX12_kindOn_3.2.2.1 rfl hl (by decide) rfl (fun ls hl => ?_)
        refine lv_aload_n hx hb gX12_kindOn_3.2.2.2.1 rfl (lv_at2 hl) ?_
        refine lv_iload_n hx hb gX12_kindOn_3.2.2.2.2.1 rfl (lv_at1 hl) ?_
        refine lv_iconst (v := 5) hx hb gX12_kindOn_3.2.2.2.2.2.1 (by decide) ?_
        refine pV hC hK hl hP hD (m_is l G kq h0 x5976 5 nw nk mhasKept nt mtaped nr mrowMany mroundOf mroundFrom mouts nm mfromHour mtoHour ns mfrom mto msort misFault mdeep mcoded mlines nl nc nF np ntr nb mbestCost nso nsi nit nsh nsf nss nrc mtraced mdealer mnumber mwhose msize misParted fnw (by omega) (ekq) (by omega)) si_X12_120 [0, 1] sm_0_1 fm_0_1 nd_0_1 rfl rfl rfl rfl rfl (Nat.le_of_ble_eq_true rfl) rm_3_2_3 ⟨by first | exact Nat.le_of_ble_eq_true rfl | exact Nat.zero_le _, by first | exact Nat.le_of_ble_eq_true rfl | exact Nat.zero_le _⟩ gX12_kindOn_3.2.2.2.2.2.2.1 (Kors (Keqa fun a5989 => ?_) (Keqa fun a5989 => ?_))
        · refine lv_if_ne (tgt := 88) hx hb gX12_kindOn_3.2.2.2.2.2.2.2.1 (by decide) (fun _ => ?_) (fun c9 => absurd c9 (by decide))
          refine lv_iload_n hx hb gX12_kindOn_4.1 rfl (lv_at0 hl) ?_
          refine lv_if_ne (tgt := 96) hx hb gX12_kindOn_4.2.1 (by decide) (fun c9 => absurd (by decide) c9) (fun _ => ?_)
          refine lv_iconst (v := 2) hx hb gX12_kindOn_4.2.2.1 (by decide) ?_
          refine lv_goto (tgt := 110) hx hb gX12_kindOn_4.2.2.2.1 (by decide) ?_
          refine toQ hQ0 ?_
          exact RP (v := 2) hC (Or.inr (Or.inr (Or.inl (⟨rfl, KO1.mk (kk := kq) (by omega) (by omega) ex5977 ex5976 c_13_5978 a5989⟩)))) rfl gX12_kindOn_5.2.2.1
        · exact absurd a5980 a5989
      · refine lv_iconst (v := 1) hx hb gX12_kindOn_2.2.2.2.2.2.2.2.2.2 (by decide) ?_
        refine lv_goto (tgt := 74) hx hb gX12_kindOn_3.1 (by decide) ?_
        refine lv_istore_n (lv' := [(3, .int 1), (2, .int x5976), (0, .ref h0), (1, .int (nI jt))]) hx hb gX12_kindOn_3.2.2.1 rfl hl (by decide) rfl (fun ls hl => ?_)
        refine lv_aload_n hx hb gX12_kindOn_3.2.2.2.1 rfl (lv_at2 hl) ?_
        refine lv_iload_n hx hb gX12_kindOn_3.2.2.2.2.1 rfl (lv_at1 hl) ?_
        refine lv_iconst (v := 5) hx hb gX12_kindOn_3.2.2.2.2.2.1 (by decide) ?_
        refine pV hC hK hl hP hD (m_is l G kq h0 x5976 5 nw nk mhasKept nt mtaped nr mrowMany mroundOf mroundFrom mouts nm mfromHour mtoHour ns mfrom mto msort misFault mdeep mcoded mlines nl nc nF np ntr nb mbestCost nso nsi nit nsh nsf nss nrc mtraced mdealer mnumber mwhose msize misParted fnw (by omega) (ekq) (by omega)) si_X12_120 [0, 1] sm_0_1 fm_0_1 nd_0_1 rfl rfl rfl rfl rfl (Nat.le_of_ble_eq_true rfl) rm_3_2_3 ⟨by first | exact Nat.le_of_ble_eq_true rfl | exact Nat.zero_le _, by first | exact Nat.le_of_ble_eq_true rfl | exact Nat.zero_le _⟩ gX12_kindOn_3.2.2.2.2.2.2.1 (Kors (Keqa fun a5991 => ?_) (Keqa fun a5991 => ?_))
        · refine lv_if_ne (tgt := 88) hx hb gX12_kindOn_3.2.2.2.2.2.2.2.1 (by decide) (fun _ => ?_) (fun c9 => absurd c9 (by decide))
          refine lv_iload_n hx hb gX12_kindOn_4.1 rfl (lv_at0 hl) ?_
          refine lv_if_ne (tgt := 96) hx hb gX12_kindOn_4.2.1 (by decide) (fun _ => ?_) (fun c9 => absurd c9 (by decide))
          refine lv_aload_n hx hb gX12_kindOn_4.2.2.2.2.1 rfl (lv_at2 hl) ?_
          refine lv_iload_n hx hb gX12_kindOn_4.2.2.2.2.2.1 rfl (lv_at1 hl) ?_
          obtain ⟨jn5992, hjn5992, ek5992⟩ := Hs_nat (by omega) a5991
          refine eqi (x1 := nI jn5992) ek5992 ?_
          refine lv_iconst (v := 3) hx hb gX12_kindOn_4.2.2.2.2.2.2.1 (by decide) ?_
          refine pV hC hK hl hP hD (m_paper l G h0 jn5992 3 nw nk mhasKept nt mtaped nr mrowMany mroundOf mroundFrom mouts nm mfromHour mtoHour ns mfrom mto msort misFault mdeep mcoded mlines nl nc nF np ntr nb mbestCost nso nsi nit nsh nsf nss nrc mtraced mdealer mnumber mwhose msize misParted fnw (by omega) (by omega)) si_X12_88 [0, 1] sm_0_1 fm_0_1 nd_0_1 rfl rfl rfl rfl rfl (Nat.le_of_ble_eq_true rfl) rm_3_1_3 ⟨by first | exact Nat.le_of_ble_eq_true rfl | exact Nat.zero_le _, by first | exact Nat.le_of_ble_eq_true rfl | exact Nat.zero_le _⟩ gX12_kindOn_4.2.2.2.2.2.2.2.1 (Keqr ?_)
          refine lv_if_le (tgt := 109) hx hb gX12_kindOn_4.2.2.2.2.2.2.2.2.1 (by decide) (fun c_102_5995 => ?_) (fun c_102_5995 => ?_)
          · refine lv_iconst (v := 1) hx hb gX12_kindOn_5.2.1 (by decide) ?_
            refine toQ hQ0 ?_
            exact RP (v := 1) hC (Or.inr (Or.inl (⟨rfl, KO1.mk (kk := kq) (by omega) (by omega) ex5977 ex5976 c_13_5978 a5991⟩))) rfl gX12_kindOn_5.2.2.1
          · refine lv_iconst (v := 3) hx hb gX12_kindOn_4.2.2.2.2.2.2.2.2.2 (by decide) ?_
            refine lv_goto (tgt := 110) hx hb gX12_kindOn_5.1 (by decide) ?_
            refine toQ hQ0 ?_
            exact RP (v := 3) hC (Or.inr (Or.inr (Or.inr (Or.inl (⟨rfl, KO1.mk (kk := kq) (by omega) (by omega) ex5977 ex5976 c_13_5978 a5991⟩))))) rfl gX12_kindOn_5.2.2.1
        · exact absurd a5980 a5991
    · refine lv_if_eq (tgt := 73) hx hb gX12_kindOn_1.2.2.2.2.1 (by decide) (fun _ => ?_) (fun c9 => absurd (by decide) c9)
      refine lv_iconst (v := 0) hx hb gX12_kindOn_3.2.1 (by decide) ?_
      refine lv_istore_n (lv' := [(3, .int 0), (2, .int x5976), (0, .ref h0), (1, .int (nI jt))]) hx hb gX12_kindOn_3.2.2.1 rfl hl (by decide) rfl (fun ls hl => ?_)
      refine lv_aload_n hx hb gX12_kindOn_3.2.2.2.1 rfl (lv_at2 hl) ?_
      refine lv_iload_n hx hb gX12_kindOn_3.2.2.2.2.1 rfl (lv_at1 hl) ?_
      refine lv_iconst (v := 5) hx hb gX12_kindOn_3.2.2.2.2.2.1 (by decide) ?_
      refine pV hC hK hl hP hD (m_is l G kq h0 x5976 5 nw nk mhasKept nt mtaped nr mrowMany mroundOf mroundFrom mouts nm mfromHour mtoHour ns mfrom mto msort misFault mdeep mcoded mlines nl nc nF np ntr nb mbestCost nso nsi nit nsh nsf nss nrc mtraced mdealer mnumber mwhose msize misParted fnw (by omega) (ekq) (by omega)) si_X12_120 [0, 1] sm_0_1 fm_0_1 nd_0_1 rfl rfl rfl rfl rfl (Nat.le_of_ble_eq_true rfl) rm_3_2_3 ⟨by first | exact Nat.le_of_ble_eq_true rfl | exact Nat.zero_le _, by first | exact Nat.le_of_ble_eq_true rfl | exact Nat.zero_le _⟩ gX12_kindOn_3.2.2.2.2.2.2.1 (Kors (Keqa fun a5997 => ?_) (Keqa fun a5997 => ?_))
      · exact absurd a5997 a5980
      · refine lv_if_ne (tgt := 88) hx hb gX12_kindOn_3.2.2.2.2.2.2.2.1 (by decide) (fun c9 => absurd (by decide) c9) (fun _ => ?_)
        refine lv_iconst (v := (-1)) hx hb gX12_kindOn_3.2.2.2.2.2.2.2.2.1 (by decide) ?_
        refine lv_goto (tgt := 110) hx hb gX12_kindOn_3.2.2.2.2.2.2.2.2.2 (by decide) ?_
        refine toQ hQ0 ?_
        exact RP (v := (-1)) hC (Or.inl (rfl)) rfl gX12_kindOn_5.2.2.1
  by_cases c_13_5998 : x5977 = 2
  · refine lv_tableIn (tgt := 111) hx hb gX12_kindOn_0.2.2.2.2.2.2.2.2.2 (by rw [c_13_5998]; decide) (by rw [c_13_5998]; decide) (by rw [c_13_5998]; rfl) (by decide) ?_
    refine lv_aload_n hx hb gX12_kindOn_5.2.2.2.1 rfl (lv_at1 hl) ?_
    refine lv_iload_n hx hb gX12_kindOn_5.2.2.2.2.1 rfl (lv_at0 hl) ?_
    refine lv_bipush (v := 8) hx hb gX12_kindOn_5.2.2.2.2.2.1 (by decide) ?_
    refine pV hC hK hl hP hD (m_is l G k8 h0 x5976 8 nw nk mhasKept nt mtaped nr mrowMany mroundOf mroundFrom mouts nm mfromHour mtoHour ns mfrom mto msort misFault mdeep mcoded mlines nl nc nF np ntr nb mbestCost nso nsi nit nsh nsf nss nrc mtraced mdealer mnumber mwhose msize misParted fnw (by omega) (ek8) (by omega)) si_X12_120 [0, 1] sm_0_1 fm_0_1 nd_0_1 rfl rfl rfl rfl rfl (Nat.le_of_ble_eq_true rfl) rm_3_2_3 ⟨by first | exact Nat.le_of_ble_eq_true rfl | exact Nat.zero_le _, by first | exact Nat.le_of_ble_eq_true rfl | exact Nat.zero_le _⟩ gX12_kindOn_5.2.2.2.2.2.2.1 (Kors (Keqa fun a6000 => ?_) (Keqa fun a6000 => ?_))
    · refine lv_if_ne (tgt := 125) hx hb gX12_kindOn_5.2.2.2.2.2.2.2.1 (by decide) (fun _ => ?_) (fun c9 => absurd c9 (by decide))
      refine lv_aload_n hx hb gX12_kindOn_6.1 rfl (lv_at1 hl) ?_
      refine lv_iload_n hx hb gX12_kindOn_6.2.1 rfl (lv_at0 hl) ?_
      obtain ⟨jn6001, hjn6001, ek6001⟩ := Hs_nat (by omega) a6000
      refine eqi (x1 := nI jn6001) ek6001 ?_
      refine lv_bipush (v := 6) hx hb gX12_kindOn_6.2.2.1 (by decide) ?_
      refine pV hC hK hl hP hD (m_saying l G h0 jn6001 6 nw nk mhasKept nt mtaped nr mrowMany mroundOf mroundFrom mouts nm mfromHour mtoHour ns mfrom mto msort misFault mdeep mcoded mlines nl nc nF np ntr nb mbestCost nso nsi nit nsh nsf nss nrc mtraced mdealer mnumber mwhose msize misParted fnw (by omega) (by omega)) si_X12_114 [0, 1] sm_0_1 fm_0_1 nd_0_1 rfl rfl rfl rfl rfl (Nat.le_of_ble_eq_true rfl) rm_3_1_3 ⟨by first | exact Nat.le_of_ble_eq_true rfl | exact Nat.zero_le _, by first | exact Nat.le_of_ble_eq_true rfl | exact Nat.zero_le _⟩ gX12_kindOn_6.2.2.2.1 (Keqr ?_)
      refine lv_if_ge (tgt := 139) hx hb gX12_kindOn_6.2.2.2.2.1 (by decide) (fun c_132_6004 => ?_) (fun c_132_6004 => ?_)
      · refine lv_iconst (v := 4) hx hb gX12_kindOn_6.2.2.2.2.2.2.2.1 (by decide) ?_
        refine toQ hQ0 ?_
        exact RP (v := 4) hC (Or.inr (Or.inr (Or.inr (Or.inr (Or.inl (⟨rfl, KO1.mk (kk := k8) (by omega) (by omega) ex5977 ex5976 c_13_5998 a6000⟩)))))) rfl gX12_kindOn_6.2.2.2.2.2.2.2.2.1
      · refine lv_iconst (v := 5) hx hb gX12_kindOn_6.2.2.2.2.2.1 (by decide) ?_
        refine lv_goto (tgt := 140) hx hb gX12_kindOn_6.2.2.2.2.2.2.1 (by decide) ?_
        refine toQ hQ0 ?_
        exact RP (v := 5) hC (Or.inr (Or.inr (Or.inr (Or.inr (Or.inr (Or.inl (⟨rfl, KO1.mk (kk := k8) (by omega) (by omega) ex5977 ex5976 c_13_5998 a6000⟩))))))) rfl gX12_kindOn_6.2.2.2.2.2.2.2.2.1
    · refine lv_if_ne (tgt := 125) hx hb gX12_kindOn_5.2.2.2.2.2.2.2.1 (by decide) (fun c9 => absurd (by decide) c9) (fun _ => ?_)
      refine lv_iconst (v := (-1)) hx hb gX12_kindOn_5.2.2.2.2.2.2.2.2.1 (by decide) ?_
      refine lv_goto (tgt := 140) hx hb gX12_kindOn_5.2.2.2.2.2.2.2.2.2 (by decide) ?_
      refine toQ hQ0 ?_
      exact RP (v := (-1)) hC (Or.inl (rfl)) rfl gX12_kindOn_6.2.2.2.2.2.2.2.2.1
  by_cases c_13_6005 : x5977 = 3
  · refine lv_tableIn (tgt := 141) hx hb gX12_kindOn_0.2.2.2.2.2.2.2.2.2 (by rw [c_13_6005]; decide) (by rw [c_13_6005]; decide) (by rw [c_13_6005]; rfl) (by decide) ?_
    refine lv_aload_n hx hb gX12_kindOn_6.2.2.2.2.2.2.2.2.2 rfl (lv_at1 hl) ?_
    refine lv_iload_n hx hb gX12_kindOn_7.1 rfl (lv_at0 hl) ?_
    refine lv_bipush (v := 9) hx hb gX12_kindOn_7.2.1 (by decide) ?_
    refine pV hC hK hl hP hD (m_is l G k9 h0 x5976 9 nw nk mhasKept nt mtaped nr mrowMany mroundOf mroundFrom mouts nm mfromHour mtoHour ns mfrom mto msort misFault mdeep mcoded mlines nl nc nF np ntr nb mbestCost nso nsi nit nsh nsf nss nrc mtraced mdealer mnumber mwhose msize misParted fnw (by omega) (ek9) (by omega)) si_X12_120 [0, 1] sm_0_1 fm_0_1 nd_0_1 rfl rfl rfl rfl rfl (Nat.le_of_ble_eq_true rfl) rm_3_2_3 ⟨by first | exact Nat.le_of_ble_eq_true rfl | exact Nat.zero_le _, by first | exact Nat.le_of_ble_eq_true rfl | exact Nat.zero_le _⟩ gX12_kindOn_7.2.2.1 (Kors (Keqa fun a6007 => ?_) (Keqa fun a6007 => ?_))
    · refine lv_if_eq (tgt := 156) hx hb gX12_kindOn_7.2.2.2.1 (by decide) (fun c9 => absurd c9 (by decide)) (fun _ => ?_)
      refine lv_bipush (v := 6) hx hb gX12_kindOn_7.2.2.2.2.1 (by decide) ?_
      refine lv_goto (tgt := 157) hx hb gX12_kindOn_7.2.2.2.2.2.1 (by decide) ?_
      refine toQ hQ0 ?_
      exact RP (v := 6) hC (Or.inr (Or.inr (Or.inr (Or.inr (Or.inr (Or.inr (⟨rfl, KO1.mk (kk := k9) (by omega) (by omega) ex5977 ex5976 c_13_6005 a6007⟩))))))) rfl gX12_kindOn_7.2.2.2.2.2.2.2.1
    · refine lv_if_eq (tgt := 156) hx hb gX12_kindOn_7.2.2.2.1 (by decide) (fun _ => ?_) (fun c9 => absurd (by decide) c9)
      refine lv_iconst (v := (-1)) hx hb gX12_kindOn_7.2.2.2.2.2.2.1 (by decide) ?_
      refine toQ hQ0 ?_
      exact RP (v := (-1)) hC (Or.inl (rfl)) rfl gX12_kindOn_7.2.2.2.2.2.2.2.1
  refine lv_tableOut (tgt := 158) hx hb gX12_kindOn_0.2.2.2.2.2.2.2.2.2 (by have q9 := sw_1_3 (x := x5977); simp only [c_13_5978, c_13_5998, c_13_6005, not_false_eq_true, true_implies] at q9; exact q9) (by decide) ?_
  refine lv_iconst (v := (-1)) hx hb gX12_kindOn_7.2.2.2.2.2.2.2.2.1 (by decide) ?_
  refine toQ hQ0 ?_
  exact RP (v := (-1)) hC (Or.inl (rfl)) rfl gX12_kindOn_7.2.2.2.2.2.2.2.2.2
def K_m_above0 (l : Launch) (G : GG) : Prop := MP l G yX12_above cX12_above 1 (some .int) 1 [.int 0] [] (fun r : Int32 => r = (-1))
set_option maxHeartbeats 4000000 in
set_option maxRecDepth 100000 in
theorem m_above0 (l : Launch) (G : GG) : K_m_above0 l G := by
  refine MP.start (by decide +kernel) (Nat.le_of_ble_eq_true rfl) ?_
  intro p e s m below meth c ls hC hK hP hD hl
  refine absQ (fun Q0 hQ0 => ?_)
  have hl : lv_has ls 1 [(0, .int 0)] := hl
  refine Kan8 hC (fun hx hb hr hml hB hown hlocks hnm => ?_)
  refine lv_iload_n hx hb gX12_above_0.1 rfl (lv_at0 hl) ?_
  refine lv_iconst (v := 3) hx hb gX12_above_0.2.1 (by decide) ?_
  refine lv_icmp_ne (tgt := 9) hx hb gX12_above_0.2.2.1 (by decide) (fun _ => ?_) (fun c9 => absurd c9 (by decide))
  refine lv_iload_n hx hb gX12_above_0.2.2.2.2.2.1 rfl (lv_at0 hl) ?_
  refine lv_iconst (v := 5) hx hb gX12_above_0.2.2.2.2.2.2.1 (by decide) ?_
  refine lv_icmp_ne (tgt := 18) hx hb gX12_above_0.2.2.2.2.2.2.2.1 (by decide) (fun _ => ?_) (fun c9 => absurd c9 (by decide))
  refine lv_iload_n hx hb gX12_above_1.1 rfl (lv_at0 hl) ?_
  refine lv_if_ne (tgt := 26) hx hb gX12_above_1.2.1 (by decide) (fun c9 => absurd (by decide) c9) (fun _ => ?_)
  refine lv_iconst (v := (-1)) hx hb gX12_above_1.2.2.1 (by decide) ?_
  refine lv_goto (tgt := 27) hx hb gX12_above_1.2.2.2.1 (by decide) ?_
  refine toQ hQ0 ?_
  exact RP (v := (-1)) hC (rfl) rfl gX12_above_1.2.2.2.2.2
def K_m_above1 (l : Launch) (G : GG) : Prop := MP l G yX12_above cX12_above 1 (some .int) 1 [.int 1] [] (fun r : Int32 => r = 0)
set_option maxHeartbeats 4000000 in
set_option maxRecDepth 100000 in
theorem m_above1 (l : Launch) (G : GG) : K_m_above1 l G := by
  refine MP.start (by decide +kernel) (Nat.le_of_ble_eq_true rfl) ?_
  intro p e s m below meth c ls hC hK hP hD hl
  refine absQ (fun Q0 hQ0 => ?_)
  have hl : lv_has ls 1 [(0, .int 1)] := hl
  refine Kan8 hC (fun hx hb hr hml hB hown hlocks hnm => ?_)
  refine lv_iload_n hx hb gX12_above_0.1 rfl (lv_at0 hl) ?_
  refine lv_iconst (v := 3) hx hb gX12_above_0.2.1 (by decide) ?_
  refine lv_icmp_ne (tgt := 9) hx hb gX12_above_0.2.2.1 (by decide) (fun _ => ?_) (fun c9 => absurd c9 (by decide))
  refine lv_iload_n hx hb gX12_above_0.2.2.2.2.2.1 rfl (lv_at0 hl) ?_
  refine lv_iconst (v := 5) hx hb gX12_above_0.2.2.2.2.2.2.1 (by decide) ?_
  refine lv_icmp_ne (tgt := 18) hx hb gX12_above_0.2.2.2.2.2.2.2.1 (by decide) (fun _ => ?_) (fun c9 => absurd c9 (by decide))
  refine lv_iload_n hx hb gX12_above_1.1 rfl (lv_at0 hl) ?_
  refine lv_if_ne (tgt := 26) hx hb gX12_above_1.2.1 (by decide) (fun _ => ?_) (fun c9 => absurd c9 (by decide))
  refine lv_iconst (v := 0) hx hb gX12_above_1.2.2.2.2.1 (by decide) ?_
  refine toQ hQ0 ?_
  exact RP (v := 0) hC (rfl) rfl gX12_above_1.2.2.2.2.2
def K_m_above2 (l : Launch) (G : GG) : Prop := MP l G yX12_above cX12_above 1 (some .int) 1 [.int 2] [] (fun r : Int32 => r = 0)
set_option maxHeartbeats 4000000 in
set_option maxRecDepth 100000 in
theorem m_above2 (l : Launch) (G : GG) : K_m_above2 l G := by
  refine MP.start (by decide +kernel) (Nat.le_of_ble_eq_true rfl) ?_
  intro p e s m below meth c ls hC hK hP hD hl
  refine absQ (fun Q0 hQ0 => ?_)
  have hl : lv_has ls 1 [(0, .int 2)] := hl
  refine Kan8 hC (fun hx hb hr hml hB hown hlocks hnm => ?_)
  refine lv_iload_n hx hb gX12_above_0.1 rfl (lv_at0 hl) ?_
  refine lv_iconst (v := 3) hx hb gX12_above_0.2.1 (by decide) ?_
  refine lv_icmp_ne (tgt := 9) hx hb gX12_above_0.2.2.1 (by decide) (fun _ => ?_) (fun c9 => absurd c9 (by decide))
  refine lv_iload_n hx hb gX12_above_0.2.2.2.2.2.1 rfl (lv_at0 hl) ?_
  refine lv_iconst (v := 5) hx hb gX12_above_0.2.2.2.2.2.2.1 (by decide) ?_
  refine lv_icmp_ne (tgt := 18) hx hb gX12_above_0.2.2.2.2.2.2.2.1 (by decide) (fun _ => ?_) (fun c9 => absurd c9 (by decide))
  refine lv_iload_n hx hb gX12_above_1.1 rfl (lv_at0 hl) ?_
  refine lv_if_ne (tgt := 26) hx hb gX12_above_1.2.1 (by decide) (fun _ => ?_) (fun c9 => absurd c9 (by decide))
  refine lv_iconst (v := 0) hx hb gX12_above_1.2.2.2.2.1 (by decide) ?_
  refine toQ hQ0 ?_
  exact RP (v := 0) hC (rfl) rfl gX12_above_1.2.2.2.2.2
def K_m_above3 (l : Launch) (G : GG) : Prop := MP l G yX12_above cX12_above 1 (some .int) 1 [.int 3] [] (fun r : Int32 => r = 1)
set_option maxHeartbeats 4000000 in
set_option maxRecDepth 100000 in
theorem m_above3 (l : Launch) (G : GG) : K_m_above3 l G := by
  refine MP.start (by decide +kernel) (Nat.le_of_ble_eq_true rfl) ?_
  intro p e s m below meth c ls hC hK hP hD hl
  refine absQ (fun Q0 hQ0 => ?_)
  have hl : lv_has ls 1 [(0, .int 3)] := hl
  refine Kan8 hC (fun hx hb hr hml hB hown hlocks hnm => ?_)
  refine lv_iload_n hx hb gX12_above_0.1 rfl (lv_at0 hl) ?_
  refine lv_iconst (v := 3) hx hb gX12_above_0.2.1 (by decide) ?_
  refine lv_icmp_ne (tgt := 9) hx hb gX12_above_0.2.2.1 (by decide) (fun c9 => absurd (by decide) c9) (fun _ => ?_)
  refine lv_iconst (v := 1) hx hb gX12_above_0.2.2.2.1 (by decide) ?_
  refine lv_goto (tgt := 27) hx hb gX12_above_0.2.2.2.2.1 (by decide) ?_
  refine toQ hQ0 ?_
  exact RP (v := 1) hC (rfl) rfl gX12_above_1.2.2.2.2.2
def K_m_above4 (l : Launch) (G : GG) : Prop := MP l G yX12_above cX12_above 1 (some .int) 1 [.int 4] [] (fun r : Int32 => r = 0)
set_option maxHeartbeats 4000000 in
set_option maxRecDepth 100000 in
theorem m_above4 (l : Launch) (G : GG) : K_m_above4 l G := by
  refine MP.start (by decide +kernel) (Nat.le_of_ble_eq_true rfl) ?_
  intro p e s m below meth c ls hC hK hP hD hl
  refine absQ (fun Q0 hQ0 => ?_)
  have hl : lv_has ls 1 [(0, .int 4)] := hl
  refine Kan8 hC (fun hx hb hr hml hB hown hlocks hnm => ?_)
  refine lv_iload_n hx hb gX12_above_0.1 rfl (lv_at0 hl) ?_
  refine lv_iconst (v := 3) hx hb gX12_above_0.2.1 (by decide) ?_
  refine lv_icmp_ne (tgt := 9) hx hb gX12_above_0.2.2.1 (by decide) (fun _ => ?_) (fun c9 => absurd c9 (by decide))
  refine lv_iload_n hx hb gX12_above_0.2.2.2.2.2.1 rfl (lv_at0 hl) ?_
  refine lv_iconst (v := 5) hx hb gX12_above_0.2.2.2.2.2.2.1 (by decide) ?_
  refine lv_icmp_ne (tgt := 18) hx hb gX12_above_0.2.2.2.2.2.2.2.1 (by decide) (fun _ => ?_) (fun c9 => absurd c9 (by decide))
  refine lv_iload_n hx hb gX12_above_1.1 rfl (lv_at0 hl) ?_
  refine lv_if_ne (tgt := 26) hx hb gX12_above_1.2.1 (by decide) (fun _ => ?_) (fun c9 => absurd c9 (by decide))
  refine lv_iconst (v := 0) hx hb gX12_above_1.2.2.2.2.1 (by decide) ?_
  refine toQ hQ0 ?_
  exact RP (v := 0) hC (rfl) rfl gX12_above_1.2.2.2.2.2
def K_m_above5 (l : Launch) (G : GG) : Prop := MP l G yX12_above cX12_above 1 (some .int) 1 [.int 5] [] (fun r : Int32 => r = 4)
set_option maxHeartbeats 4000000 in
set_option maxRecDepth 100000 in
theorem m_above5 (l : Launch) (G : GG) : K_m_above5 l G := by
  refine MP.start (by decide +kernel) (Nat.le_of_ble_eq_true rfl) ?_
  intro p e s m below meth c ls hC hK hP hD hl
  refine absQ (fun Q0 hQ0 => ?_)
  have hl : lv_has ls 1 [(0, .int 5)] := hl
  refine Kan8 hC (fun hx hb hr hml hB hown hlocks hnm => ?_)
  refine lv_iload_n hx hb gX12_above_0.1 rfl (lv_at0 hl) ?_
  refine lv_iconst (v := 3) hx hb gX12_above_0.2.1 (by decide) ?_
  refine lv_icmp_ne (tgt := 9) hx hb gX12_above_0.2.2.1 (by decide) (fun _ => ?_) (fun c9 => absurd c9 (by decide))
  refine lv_iload_n hx hb gX12_above_0.2.2.2.2.2.1 rfl (lv_at0 hl) ?_
  refine lv_iconst (v := 5) hx hb gX12_above_0.2.2.2.2.2.2.1 (by decide) ?_
  refine lv_icmp_ne (tgt := 18) hx hb gX12_above_0.2.2.2.2.2.2.2.1 (by decide) (fun c9 => absurd (by decide) c9) (fun _ => ?_)
  refine lv_iconst (v := 4) hx hb gX12_above_0.2.2.2.2.2.2.2.2.1 (by decide) ?_
  refine lv_goto (tgt := 27) hx hb gX12_above_0.2.2.2.2.2.2.2.2.2 (by decide) ?_
  refine toQ hQ0 ?_
  exact RP (v := 4) hC (rfl) rfl gX12_above_1.2.2.2.2.2
def K_m_above6 (l : Launch) (G : GG) : Prop := MP l G yX12_above cX12_above 1 (some .int) 1 [.int 6] [] (fun r : Int32 => r = 0)
set_option maxHeartbeats 4000000 in
set_option maxRecDepth 100000 in
theorem m_above6 (l : Launch) (G : GG) : K_m_above6 l G := by
  refine MP.start (by decide +kernel) (Nat.le_of_ble_eq_true rfl) ?_
  intro p e s m below meth c ls hC hK hP hD hl
  refine absQ (fun Q0 hQ0 => ?_)
  have hl : lv_has ls 1 [(0, .int 6)] := hl
  refine Kan8 hC (fun hx hb hr hml hB hown hlocks hnm => ?_)
  refine lv_iload_n hx hb gX12_above_0.1 rfl (lv_at0 hl) ?_
  refine lv_iconst (v := 3) hx hb gX12_above_0.2.1 (by decide) ?_
  refine lv_icmp_ne (tgt := 9) hx hb gX12_above_0.2.2.1 (by decide) (fun _ => ?_) (fun c9 => absurd c9 (by decide))
  refine lv_iload_n hx hb gX12_above_0.2.2.2.2.2.1 rfl (lv_at0 hl) ?_
  refine lv_iconst (v := 5) hx hb gX12_above_0.2.2.2.2.2.2.1 (by decide) ?_
  refine lv_icmp_ne (tgt := 18) hx hb gX12_above_0.2.2.2.2.2.2.2.1 (by decide) (fun _ => ?_) (fun c9 => absurd c9 (by decide))
  refine lv_iload_n hx hb gX12_above_1.1 rfl (lv_at0 hl) ?_
  refine lv_if_ne (tgt := 26) hx hb gX12_above_1.2.1 (by decide) (fun _ => ?_) (fun c9 => absurd c9 (by decide))
  refine lv_iconst (v := 0) hx hb gX12_above_1.2.2.2.2.1 (by decide) ?_
  refine toQ hQ0 ?_
  exact RP (v := 0) hC (rfl) rfl gX12_above_1.2.2.2.2.2
def K_m_hasOwn00 (l : Launch) (G : GG) : Prop := MP l G yX12_hasOwn cX12_hasOwn 2 (some .boolean) 1 [.int 0, .int 0] [] (fun r : Int32 => r = 1)
set_option maxHeartbeats 4000000 in
set_option maxRecDepth 100000 in
theorem m_hasOwn00 (l : Launch) (G : GG) : K_m_hasOwn00 l G := by
  refine MP.start (by decide +kernel) (Nat.le_of_ble_eq_true rfl) ?_
  intro p e s m below meth c ls hC hK hP hD hl
  refine absQ (fun Q0 hQ0 => ?_)
  have hl : lv_has ls 2 [(0, .int 0), (1, .int 0)] := hl
  refine Kan8 hC (fun hx hb hr hml hB hown hlocks hnm => ?_)
  refine lv_iload_n hx hb gX12_hasOwn_0.1 rfl (lv_at0 hl) ?_
  refine lv_tableIn (tgt := 40) hx hb gX12_hasOwn_0.2.1 (by decide) (by decide) rfl (by decide) ?_
  refine lv_iconst (v := 1) hx hb gX12_hasOwn_0.2.2.1 (by decide) ?_
  refine toQ hQ0 ?_
  exact RP (v := 1) hC (rfl) (by decide +kernel) gX12_hasOwn_0.2.2.2.1
def K_m_hasOwn01 (l : Launch) (G : GG) : Prop := MP l G yX12_hasOwn cX12_hasOwn 2 (some .boolean) 1 [.int 0, .int 1] [] (fun r : Int32 => r = 1)
set_option maxHeartbeats 4000000 in
set_option maxRecDepth 100000 in
theorem m_hasOwn01 (l : Launch) (G : GG) : K_m_hasOwn01 l G := by
  refine MP.start (by decide +kernel) (Nat.le_of_ble_eq_true rfl) ?_
  intro p e s m below meth c ls hC hK hP hD hl
  refine absQ (fun Q0 hQ0 => ?_)
  have hl : lv_has ls 2 [(0, .int 0), (1, .int 1)] := hl
  refine Kan8 hC (fun hx hb hr hml hB hown hlocks hnm => ?_)
  refine lv_iload_n hx hb gX12_hasOwn_0.1 rfl (lv_at0 hl) ?_
  refine lv_tableIn (tgt := 40) hx hb gX12_hasOwn_0.2.1 (by decide) (by decide) rfl (by decide) ?_
  refine lv_iconst (v := 1) hx hb gX12_hasOwn_0.2.2.1 (by decide) ?_
  refine toQ hQ0 ?_
  exact RP (v := 1) hC (rfl) (by decide +kernel) gX12_hasOwn_0.2.2.2.1
def K_m_hasOwn02 (l : Launch) (G : GG) : Prop := MP l G yX12_hasOwn cX12_hasOwn 2 (some .boolean) 1 [.int 0, .int 2] [] (fun r : Int32 => r = 1)
set_option maxHeartbeats 4000000 in
set_option maxRecDepth 100000 in
theorem m_hasOwn02 (l : Launch) (G : GG) : K_m_hasOwn02 l G := by
  refine MP.start (by decide +kernel) (Nat.le_of_ble_eq_true rfl) ?_
  intro p e s m below meth c ls hC hK hP hD hl
  refine absQ (fun Q0 hQ0 => ?_)
  have hl : lv_has ls 2 [(0, .int 0), (1, .int 2)] := hl
  refine Kan8 hC (fun hx hb hr hml hB hown hlocks hnm => ?_)
  refine lv_iload_n hx hb gX12_hasOwn_0.1 rfl (lv_at0 hl) ?_
  refine lv_tableIn (tgt := 40) hx hb gX12_hasOwn_0.2.1 (by decide) (by decide) rfl (by decide) ?_
  refine lv_iconst (v := 1) hx hb gX12_hasOwn_0.2.2.1 (by decide) ?_
  refine toQ hQ0 ?_
  exact RP (v := 1) hC (rfl) (by decide +kernel) gX12_hasOwn_0.2.2.2.1
def K_m_hasOwn03 (l : Launch) (G : GG) : Prop := MP l G yX12_hasOwn cX12_hasOwn 2 (some .boolean) 1 [.int 0, .int 3] [] (fun r : Int32 => r = 1)
set_option maxHeartbeats 4000000 in
set_option maxRecDepth 100000 in
theorem m_hasOwn03 (l : Launch) (G : GG) : K_m_hasOwn03 l G := by
  refine MP.start (by decide +kernel) (Nat.le_of_ble_eq_true rfl) ?_
  intro p e s m below meth c ls hC hK hP hD hl
  refine absQ (fun Q0 hQ0 => ?_)
  have hl : lv_has ls 2 [(0, .int 0), (1, .int 3)] := hl
  refine Kan8 hC (fun hx hb hr hml hB hown hlocks hnm => ?_)
  refine lv_iload_n hx hb gX12_hasOwn_0.1 rfl (lv_at0 hl) ?_
  refine lv_tableIn (tgt := 40) hx hb gX12_hasOwn_0.2.1 (by decide) (by decide) rfl (by decide) ?_
  refine lv_iconst (v := 1) hx hb gX12_hasOwn_0.2.2.1 (by decide) ?_
  refine toQ hQ0 ?_
  exact RP (v := 1) hC (rfl) (by decide +kernel) gX12_hasOwn_0.2.2.2.1
def K_m_hasOwn10 (l : Launch) (G : GG) : Prop := MP l G yX12_hasOwn cX12_hasOwn 2 (some .boolean) 1 [.int 1, .int 0] [] (fun r : Int32 => r = 0)
set_option maxHeartbeats 4000000 in
set_option maxRecDepth 100000 in
theorem m_hasOwn10 (l : Launch) (G : GG) : K_m_hasOwn10 l G := by
  refine MP.start (by decide +kernel) (Nat.le_of_ble_eq_true rfl) ?_
  intro p e s m below meth c ls hC hK hP hD hl
  refine absQ (fun Q0 hQ0 => ?_)
  have hl : lv_has ls 2 [(0, .int 1), (1, .int 0)] := hl
  refine Kan8 hC (fun hx hb hr hml hB hown hlocks hnm => ?_)
  refine lv_iload_n hx hb gX12_hasOwn_0.1 rfl (lv_at0 hl) ?_
  refine lv_tableIn (tgt := 42) hx hb gX12_hasOwn_0.2.1 (by decide) (by decide) rfl (by decide) ?_
  refine lv_iload_n hx hb gX12_hasOwn_0.2.2.2.2.1 rfl (lv_at1 hl) ?_
  refine lv_iconst (v := 1) hx hb gX12_hasOwn_0.2.2.2.2.2.1 (by decide) ?_
  refine lv_icmp_ne (tgt := 51) hx hb gX12_hasOwn_0.2.2.2.2.2.2.1 (by decide) (fun _ => ?_) (fun c9 => absurd c9 (by decide))
  refine lv_iconst (v := 0) hx hb gX12_hasOwn_0.2.2.2.2.2.2.2.2.2 (by decide) ?_
  refine toQ hQ0 ?_
  exact RP (v := 0) hC (rfl) (by decide +kernel) gX12_hasOwn_1.1
def K_m_hasOwn11 (l : Launch) (G : GG) : Prop := MP l G yX12_hasOwn cX12_hasOwn 2 (some .boolean) 1 [.int 1, .int 1] [] (fun r : Int32 => r = 1)
set_option maxHeartbeats 4000000 in
set_option maxRecDepth 100000 in
theorem m_hasOwn11 (l : Launch) (G : GG) : K_m_hasOwn11 l G := by
  refine MP.start (by decide +kernel) (Nat.le_of_ble_eq_true rfl) ?_
  intro p e s m below meth c ls hC hK hP hD hl
  refine absQ (fun Q0 hQ0 => ?_)
  have hl : lv_has ls 2 [(0, .int 1), (1, .int 1)] := hl
  refine Kan8 hC (fun hx hb hr hml hB hown hlocks hnm => ?_)
  refine lv_iload_n hx hb gX12_hasOwn_0.1 rfl (lv_at0 hl) ?_
  refine lv_tableIn (tgt := 42) hx hb gX12_hasOwn_0.2.1 (by decide) (by decide) rfl (by decide) ?_
  refine lv_iload_n hx hb gX12_hasOwn_0.2.2.2.2.1 rfl (lv_at1 hl) ?_
  refine lv_iconst (v := 1) hx hb gX12_hasOwn_0.2.2.2.2.2.1 (by decide) ?_
  refine lv_icmp_ne (tgt := 51) hx hb gX12_hasOwn_0.2.2.2.2.2.2.1 (by decide) (fun c9 => absurd (by decide) c9) (fun _ => ?_)
  refine lv_iconst (v := 1) hx hb gX12_hasOwn_0.2.2.2.2.2.2.2.1 (by decide) ?_
  refine lv_goto (tgt := 52) hx hb gX12_hasOwn_0.2.2.2.2.2.2.2.2.1 (by decide) ?_
  refine toQ hQ0 ?_
  exact RP (v := 1) hC (rfl) (by decide +kernel) gX12_hasOwn_1.1
def K_m_hasOwn12 (l : Launch) (G : GG) : Prop := MP l G yX12_hasOwn cX12_hasOwn 2 (some .boolean) 1 [.int 1, .int 2] [] (fun r : Int32 => r = 0)
set_option maxHeartbeats 4000000 in
set_option maxRecDepth 100000 in
theorem m_hasOwn12 (l : Launch) (G : GG) : K_m_hasOwn12 l G := by
  refine MP.start (by decide +kernel) (Nat.le_of_ble_eq_true rfl) ?_
  intro p e s m below meth c ls hC hK hP hD hl
  refine absQ (fun Q0 hQ0 => ?_)
  have hl : lv_has ls 2 [(0, .int 1), (1, .int 2)] := hl
  refine Kan8 hC (fun hx hb hr hml hB hown hlocks hnm => ?_)
  refine lv_iload_n hx hb gX12_hasOwn_0.1 rfl (lv_at0 hl) ?_
  refine lv_tableIn (tgt := 42) hx hb gX12_hasOwn_0.2.1 (by decide) (by decide) rfl (by decide) ?_
  refine lv_iload_n hx hb gX12_hasOwn_0.2.2.2.2.1 rfl (lv_at1 hl) ?_
  refine lv_iconst (v := 1) hx hb gX12_hasOwn_0.2.2.2.2.2.1 (by decide) ?_
  refine lv_icmp_ne (tgt := 51) hx hb gX12_hasOwn_0.2.2.2.2.2.2.1 (by decide) (fun _ => ?_) (fun c9 => absurd c9 (by decide))
  refine lv_iconst (v := 0) hx hb gX12_hasOwn_0.2.2.2.2.2.2.2.2.2 (by decide) ?_
  refine toQ hQ0 ?_
  exact RP (v := 0) hC (rfl) (by decide +kernel) gX12_hasOwn_1.1
def K_m_hasOwn13 (l : Launch) (G : GG) : Prop := MP l G yX12_hasOwn cX12_hasOwn 2 (some .boolean) 1 [.int 1, .int 3] [] (fun r : Int32 => r = 0)
set_option maxHeartbeats 4000000 in
set_option maxRecDepth 100000 in
theorem m_hasOwn13 (l : Launch) (G : GG) : K_m_hasOwn13 l G := by
  refine MP.start (by decide +kernel) (Nat.le_of_ble_eq_true rfl) ?_
  intro p e s m below meth c ls hC hK hP hD hl
  refine absQ (fun Q0 hQ0 => ?_)
  have hl : lv_has ls 2 [(0, .int 1), (1, .int 3)] := hl
  refine Kan8 hC (fun hx hb hr hml hB hown hlocks hnm => ?_)
  refine lv_iload_n hx hb gX12_hasOwn_0.1 rfl (lv_at0 hl) ?_
  refine lv_tableIn (tgt := 42) hx hb gX12_hasOwn_0.2.1 (by decide) (by decide) rfl (by decide) ?_
  refine lv_iload_n hx hb gX12_hasOwn_0.2.2.2.2.1 rfl (lv_at1 hl) ?_
  refine lv_iconst (v := 1) hx hb gX12_hasOwn_0.2.2.2.2.2.1 (by decide) ?_
  refine lv_icmp_ne (tgt := 51) hx hb gX12_hasOwn_0.2.2.2.2.2.2.1 (by decide) (fun _ => ?_) (fun c9 => absurd c9 (by decide))
  refine lv_iconst (v := 0) hx hb gX12_hasOwn_0.2.2.2.2.2.2.2.2.2 (by decide) ?_
  refine toQ hQ0 ?_
  exact RP (v := 0) hC (rfl) (by decide +kernel) gX12_hasOwn_1.1
def K_m_hasOwn20 (l : Launch) (G : GG) : Prop := MP l G yX12_hasOwn cX12_hasOwn 2 (some .boolean) 1 [.int 2, .int 0] [] (fun r : Int32 => r = 0)
set_option maxHeartbeats 4000000 in
set_option maxRecDepth 100000 in
theorem m_hasOwn20 (l : Launch) (G : GG) : K_m_hasOwn20 l G := by
  refine MP.start (by decide +kernel) (Nat.le_of_ble_eq_true rfl) ?_
  intro p e s m below meth c ls hC hK hP hD hl
  refine absQ (fun Q0 hQ0 => ?_)
  have hl : lv_has ls 2 [(0, .int 2), (1, .int 0)] := hl
  refine Kan8 hC (fun hx hb hr hml hB hown hlocks hnm => ?_)
  refine lv_iload_n hx hb gX12_hasOwn_0.1 rfl (lv_at0 hl) ?_
  refine lv_tableIn (tgt := 53) hx hb gX12_hasOwn_0.2.1 (by decide) (by decide) rfl (by decide) ?_
  refine lv_iload_n hx hb gX12_hasOwn_1.2.1 rfl (lv_at1 hl) ?_
  refine lv_iconst (v := 2) hx hb gX12_hasOwn_1.2.2.1 (by decide) ?_
  refine lv_icmp_ne (tgt := 62) hx hb gX12_hasOwn_1.2.2.2.1 (by decide) (fun _ => ?_) (fun c9 => absurd c9 (by decide))
  refine lv_iconst (v := 0) hx hb gX12_hasOwn_1.2.2.2.2.2.2.1 (by decide) ?_
  refine toQ hQ0 ?_
  exact RP (v := 0) hC (rfl) (by decide +kernel) gX12_hasOwn_1.2.2.2.2.2.2.2.1
def K_m_hasOwn21 (l : Launch) (G : GG) : Prop := MP l G yX12_hasOwn cX12_hasOwn 2 (some .boolean) 1 [.int 2, .int 1] [] (fun r : Int32 => r = 0)
set_option maxHeartbeats 4000000 in
set_option maxRecDepth 100000 in
theorem m_hasOwn21 (l : Launch) (G : GG) : K_m_hasOwn21 l G := by
  refine MP.start (by decide +kernel) (Nat.le_of_ble_eq_true rfl) ?_
  intro p e s m below meth c ls hC hK hP hD hl
  refine absQ (fun Q0 hQ0 => ?_)
  have hl : lv_has ls 2 [(0, .int 2), (1, .int 1)] := hl
  refine Kan8 hC (fun hx hb hr hml hB hown hlocks hnm => ?_)
  refine lv_iload_n hx hb gX12_hasOwn_0.1 rfl (lv_at0 hl) ?_
  refine lv_tableIn (tgt := 53) hx hb gX12_hasOwn_0.2.1 (by decide) (by decide) rfl (by decide) ?_
  refine lv_iload_n hx hb gX12_hasOwn_1.2.1 rfl (lv_at1 hl) ?_
  refine lv_iconst (v := 2) hx hb gX12_hasOwn_1.2.2.1 (by decide) ?_
  refine lv_icmp_ne (tgt := 62) hx hb gX12_hasOwn_1.2.2.2.1 (by decide) (fun _ => ?_) (fun c9 => absurd c9 (by decide))
  refine lv_iconst (v := 0) hx hb gX12_hasOwn_1.2.2.2.2.2.2.1 (by decide) ?_
  refine toQ hQ0 ?_
  exact RP (v := 0) hC (rfl) (by decide +kernel) gX12_hasOwn_1.2.2.2.2.2.2.2.1
def K_m_hasOwn22 (l : Launch) (G : GG) : Prop := MP l G yX12_hasOwn cX12_hasOwn 2 (some .boolean) 1 [.int 2, .int 2] [] (fun r : Int32 => r = 1)
set_option maxHeartbeats 4000000 in
set_option maxRecDepth 100000 in
theorem m_hasOwn22 (l : Launch) (G : GG) : K_m_hasOwn22 l G := by
  refine MP.start (by decide +kernel) (Nat.le_of_ble_eq_true rfl) ?_
  intro p e s m below meth c ls hC hK hP hD hl
  refine absQ (fun Q0 hQ0 => ?_)
  have hl : lv_has ls 2 [(0, .int 2), (1, .int 2)] := hl
  refine Kan8 hC (fun hx hb hr hml hB hown hlocks hnm => ?_)
  refine lv_iload_n hx hb gX12_hasOwn_0.1 rfl (lv_at0 hl) ?_
  refine lv_tableIn (tgt := 53) hx hb gX12_hasOwn_0.2.1 (by decide) (by decide) rfl (by decide) ?_
  refine lv_iload_n hx hb gX12_hasOwn_1.2.1 rfl (lv_at1 hl) ?_
  refine lv_iconst (v := 2) hx hb gX12_hasOwn_1.2.2.1 (by decide) ?_
  refine lv_icmp_ne (tgt := 62) hx hb gX12_hasOwn_1.2.2.2.1 (by decide) (fun c9 => absurd (by decide) c9) (fun _ => ?_)
  refine lv_iconst (v := 1) hx hb gX12_hasOwn_1.2.2.2.2.1 (by decide) ?_
  refine lv_goto (tgt := 63) hx hb gX12_hasOwn_1.2.2.2.2.2.1 (by decide) ?_
  refine toQ hQ0 ?_
  exact RP (v := 1) hC (rfl) (by decide +kernel) gX12_hasOwn_1.2.2.2.2.2.2.2.1
def K_m_hasOwn23 (l : Launch) (G : GG) : Prop := MP l G yX12_hasOwn cX12_hasOwn 2 (some .boolean) 1 [.int 2, .int 3] [] (fun r : Int32 => r = 0)
set_option maxHeartbeats 4000000 in
set_option maxRecDepth 100000 in
theorem m_hasOwn23 (l : Launch) (G : GG) : K_m_hasOwn23 l G := by
  refine MP.start (by decide +kernel) (Nat.le_of_ble_eq_true rfl) ?_
  intro p e s m below meth c ls hC hK hP hD hl
  refine absQ (fun Q0 hQ0 => ?_)
  have hl : lv_has ls 2 [(0, .int 2), (1, .int 3)] := hl
  refine Kan8 hC (fun hx hb hr hml hB hown hlocks hnm => ?_)
  refine lv_iload_n hx hb gX12_hasOwn_0.1 rfl (lv_at0 hl) ?_
  refine lv_tableIn (tgt := 53) hx hb gX12_hasOwn_0.2.1 (by decide) (by decide) rfl (by decide) ?_
  refine lv_iload_n hx hb gX12_hasOwn_1.2.1 rfl (lv_at1 hl) ?_
  refine lv_iconst (v := 2) hx hb gX12_hasOwn_1.2.2.1 (by decide) ?_
  refine lv_icmp_ne (tgt := 62) hx hb gX12_hasOwn_1.2.2.2.1 (by decide) (fun _ => ?_) (fun c9 => absurd c9 (by decide))
  refine lv_iconst (v := 0) hx hb gX12_hasOwn_1.2.2.2.2.2.2.1 (by decide) ?_
  refine toQ hQ0 ?_
  exact RP (v := 0) hC (rfl) (by decide +kernel) gX12_hasOwn_1.2.2.2.2.2.2.2.1
def K_m_hasOwn30 (l : Launch) (G : GG) : Prop := MP l G yX12_hasOwn cX12_hasOwn 2 (some .boolean) 1 [.int 3, .int 0] [] (fun r : Int32 => r = 0)
set_option maxHeartbeats 4000000 in
set_option maxRecDepth 100000 in
theorem m_hasOwn30 (l : Launch) (G : GG) : K_m_hasOwn30 l G := by
  refine MP.start (by decide +kernel) (Nat.le_of_ble_eq_true rfl) ?_
  intro p e s m below meth c ls hC hK hP hD hl
  refine absQ (fun Q0 hQ0 => ?_)
  have hl : lv_has ls 2 [(0, .int 3), (1, .int 0)] := hl
  refine Kan8 hC (fun hx hb hr hml hB hown hlocks hnm => ?_)
  refine lv_iload_n hx hb gX12_hasOwn_0.1 rfl (lv_at0 hl) ?_
  refine lv_tableIn (tgt := 64) hx hb gX12_hasOwn_0.2.1 (by decide) (by decide) rfl (by decide) ?_
  refine lv_iload_n hx hb gX12_hasOwn_1.2.2.2.2.2.2.2.2.1 rfl (lv_at1 hl) ?_
  refine lv_iconst (v := 1) hx hb gX12_hasOwn_1.2.2.2.2.2.2.2.2.2 (by decide) ?_
  refine lv_icmp_eq (tgt := 74) hx hb gX12_hasOwn_2.1 (by decide) (fun c9 => absurd c9 (by decide)) (fun _ => ?_)
  refine lv_iload_n hx hb gX12_hasOwn_2.2.1 rfl (lv_at1 hl) ?_
  refine lv_iconst (v := 3) hx hb gX12_hasOwn_2.2.2.1 (by decide) ?_
  refine lv_icmp_ne (tgt := 78) hx hb gX12_hasOwn_2.2.2.2.1 (by decide) (fun _ => ?_) (fun c9 => absurd c9 (by decide))
  refine lv_iconst (v := 0) hx hb gX12_hasOwn_2.2.2.2.2.2.2.1 (by decide) ?_
  refine toQ hQ0 ?_
  exact RP (v := 0) hC (rfl) (by decide +kernel) gX12_hasOwn_2.2.2.2.2.2.2.2.1
def K_m_hasOwn31 (l : Launch) (G : GG) : Prop := MP l G yX12_hasOwn cX12_hasOwn 2 (some .boolean) 1 [.int 3, .int 1] [] (fun r : Int32 => r = 1)
set_option maxHeartbeats 4000000 in
set_option maxRecDepth 100000 in
theorem m_hasOwn31 (l : Launch) (G : GG) : K_m_hasOwn31 l G := by
  refine MP.start (by decide +kernel) (Nat.le_of_ble_eq_true rfl) ?_
  intro p e s m below meth c ls hC hK hP hD hl
  refine absQ (fun Q0 hQ0 => ?_)
  have hl : lv_has ls 2 [(0, .int 3), (1, .int 1)] := hl
  refine Kan8 hC (fun hx hb hr hml hB hown hlocks hnm => ?_)
  refine lv_iload_n hx hb gX12_hasOwn_0.1 rfl (lv_at0 hl) ?_
  refine lv_tableIn (tgt := 64) hx hb gX12_hasOwn_0.2.1 (by decide) (by decide) rfl (by decide) ?_
  refine lv_iload_n hx hb gX12_hasOwn_1.2.2.2.2.2.2.2.2.1 rfl (lv_at1 hl) ?_
  refine lv_iconst (v := 1) hx hb gX12_hasOwn_1.2.2.2.2.2.2.2.2.2 (by decide) ?_
  refine lv_icmp_eq (tgt := 74) hx hb gX12_hasOwn_2.1 (by decide) (fun _ => ?_) (fun c9 => absurd (by decide) c9)
  refine lv_iconst (v := 1) hx hb gX12_hasOwn_2.2.2.2.2.1 (by decide) ?_
  refine lv_goto (tgt := 79) hx hb gX12_hasOwn_2.2.2.2.2.2.1 (by decide) ?_
  refine toQ hQ0 ?_
  exact RP (v := 1) hC (rfl) (by decide +kernel) gX12_hasOwn_2.2.2.2.2.2.2.2.1
def K_m_hasOwn32 (l : Launch) (G : GG) : Prop := MP l G yX12_hasOwn cX12_hasOwn 2 (some .boolean) 1 [.int 3, .int 2] [] (fun r : Int32 => r = 0)
set_option maxHeartbeats 4000000 in
set_option maxRecDepth 100000 in
theorem m_hasOwn32 (l : Launch) (G : GG) : K_m_hasOwn32 l G := by
  refine MP.start (by decide +kernel) (Nat.le_of_ble_eq_true rfl) ?_
  intro p e s m below meth c ls hC hK hP hD hl
  refine absQ (fun Q0 hQ0 => ?_)
  have hl : lv_has ls 2 [(0, .int 3), (1, .int 2)] := hl
  refine Kan8 hC (fun hx hb hr hml hB hown hlocks hnm => ?_)
  refine lv_iload_n hx hb gX12_hasOwn_0.1 rfl (lv_at0 hl) ?_
  refine lv_tableIn (tgt := 64) hx hb gX12_hasOwn_0.2.1 (by decide) (by decide) rfl (by decide) ?_
  refine lv_iload_n hx hb gX12_hasOwn_1.2.2.2.2.2.2.2.2.1 rfl (lv_at1 hl) ?_
  refine lv_iconst (v := 1) hx hb gX12_hasOwn_1.2.2.2.2.2.2.2.2.2 (by decide) ?_
  refine lv_icmp_eq (tgt := 74) hx hb gX12_hasOwn_2.1 (by decide) (fun c9 => absurd c9 (by decide)) (fun _ => ?_)
  refine lv_iload_n hx hb gX12_hasOwn_2.2.1 rfl (lv_at1 hl) ?_
  refine lv_iconst (v := 3) hx hb gX12_hasOwn_2.2.2.1 (by decide) ?_
  refine lv_icmp_ne (tgt := 78) hx hb gX12_hasOwn_2.2.2.2.1 (by decide) (fun _ => ?_) (fun c9 => absurd c9 (by decide))
  refine lv_iconst (v := 0) hx hb gX12_hasOwn_2.2.2.2.2.2.2.1 (by decide) ?_
  refine toQ hQ0 ?_
  exact RP (v := 0) hC (rfl) (by decide +kernel) gX12_hasOwn_2.2.2.2.2.2.2.2.1
def K_m_hasOwn33 (l : Launch) (G : GG) : Prop := MP l G yX12_hasOwn cX12_hasOwn 2 (some .boolean) 1 [.int 3, .int 3] [] (fun r : Int32 => r = 1)
set_option maxHeartbeats 4000000 in
set_option maxRecDepth 100000 in
theorem m_hasOwn33 (l : Launch) (G : GG) : K_m_hasOwn33 l G := by
  refine MP.start (by decide +kernel) (Nat.le_of_ble_eq_true rfl) ?_
  intro p e s m below meth c ls hC hK hP hD hl
  refine absQ (fun Q0 hQ0 => ?_)
  have hl : lv_has ls 2 [(0, .int 3), (1, .int 3)] := hl
  refine Kan8 hC (fun hx hb hr hml hB hown hlocks hnm => ?_)
  refine lv_iload_n hx hb gX12_hasOwn_0.1 rfl (lv_at0 hl) ?_
  refine lv_tableIn (tgt := 64) hx hb gX12_hasOwn_0.2.1 (by decide) (by decide) rfl (by decide) ?_
  refine lv_iload_n hx hb gX12_hasOwn_1.2.2.2.2.2.2.2.2.1 rfl (lv_at1 hl) ?_
  refine lv_iconst (v := 1) hx hb gX12_hasOwn_1.2.2.2.2.2.2.2.2.2 (by decide) ?_
  refine lv_icmp_eq (tgt := 74) hx hb gX12_hasOwn_2.1 (by decide) (fun c9 => absurd c9 (by decide)) (fun _ => ?_)
  refine lv_iload_n hx hb gX12_hasOwn_2.2.1 rfl (lv_at1 hl) ?_
  refine lv_iconst (v := 3) hx hb gX12_hasOwn_2.2.2.1 (by decide) ?_
  refine lv_icmp_ne (tgt := 78) hx hb gX12_hasOwn_2.2.2.2.1 (by decide) (fun c9 => absurd (by decide) c9) (fun _ => ?_)
  refine lv_iconst (v := 1) hx hb gX12_hasOwn_2.2.2.2.2.1 (by decide) ?_
  refine lv_goto (tgt := 79) hx hb gX12_hasOwn_2.2.2.2.2.2.1 (by decide) ?_
  refine toQ hQ0 ?_
  exact RP (v := 1) hC (rfl) (by decide +kernel) gX12_hasOwn_2.2.2.2.2.2.2.2.1
def K_m_hasOwn40 (l : Launch) (G : GG) : Prop := MP l G yX12_hasOwn cX12_hasOwn 2 (some .boolean) 1 [.int 4, .int 0] [] (fun r : Int32 => r = 1)
set_option maxHeartbeats 4000000 in
set_option maxRecDepth 100000 in
theorem m_hasOwn40 (l : Launch) (G : GG) : K_m_hasOwn40 l G := by
  refine MP.start (by decide +kernel) (Nat.le_of_ble_eq_true rfl) ?_
  intro p e s m below meth c ls hC hK hP hD hl
  refine absQ (fun Q0 hQ0 => ?_)
  have hl : lv_has ls 2 [(0, .int 4), (1, .int 0)] := hl
  refine Kan8 hC (fun hx hb hr hml hB hown hlocks hnm => ?_)
  refine lv_iload_n hx hb gX12_hasOwn_0.1 rfl (lv_at0 hl) ?_
  refine lv_tableIn (tgt := 80) hx hb gX12_hasOwn_0.2.1 (by decide) (by decide) rfl (by decide) ?_
  refine lv_iload_n hx hb gX12_hasOwn_2.2.2.2.2.2.2.2.2.1 rfl (lv_at1 hl) ?_
  refine lv_if_eq (tgt := 89) hx hb gX12_hasOwn_2.2.2.2.2.2.2.2.2.2 (by decide) (fun _ => ?_) (fun c9 => absurd (by decide) c9)
  refine lv_iconst (v := 1) hx hb gX12_hasOwn_3.2.2.2.1 (by decide) ?_
  refine lv_goto (tgt := 94) hx hb gX12_hasOwn_3.2.2.2.2.1 (by decide) ?_
  refine toQ hQ0 ?_
  exact RP (v := 1) hC (rfl) (by decide +kernel) gX12_hasOwn_3.2.2.2.2.2.2.1
def K_m_hasOwn41 (l : Launch) (G : GG) : Prop := MP l G yX12_hasOwn cX12_hasOwn 2 (some .boolean) 1 [.int 4, .int 1] [] (fun r : Int32 => r = 0)
set_option maxHeartbeats 4000000 in
set_option maxRecDepth 100000 in
theorem m_hasOwn41 (l : Launch) (G : GG) : K_m_hasOwn41 l G := by
  refine MP.start (by decide +kernel) (Nat.le_of_ble_eq_true rfl) ?_
  intro p e s m below meth c ls hC hK hP hD hl
  refine absQ (fun Q0 hQ0 => ?_)
  have hl : lv_has ls 2 [(0, .int 4), (1, .int 1)] := hl
  refine Kan8 hC (fun hx hb hr hml hB hown hlocks hnm => ?_)
  refine lv_iload_n hx hb gX12_hasOwn_0.1 rfl (lv_at0 hl) ?_
  refine lv_tableIn (tgt := 80) hx hb gX12_hasOwn_0.2.1 (by decide) (by decide) rfl (by decide) ?_
  refine lv_iload_n hx hb gX12_hasOwn_2.2.2.2.2.2.2.2.2.1 rfl (lv_at1 hl) ?_
  refine lv_if_eq (tgt := 89) hx hb gX12_hasOwn_2.2.2.2.2.2.2.2.2.2 (by decide) (fun c9 => absurd c9 (by decide)) (fun _ => ?_)
  refine lv_iload_n hx hb gX12_hasOwn_3.1 rfl (lv_at1 hl) ?_
  refine lv_iconst (v := 2) hx hb gX12_hasOwn_3.2.1 (by decide) ?_
  refine lv_icmp_ne (tgt := 93) hx hb gX12_hasOwn_3.2.2.1 (by decide) (fun _ => ?_) (fun c9 => absurd c9 (by decide))
  refine lv_iconst (v := 0) hx hb gX12_hasOwn_3.2.2.2.2.2.1 (by decide) ?_
  refine toQ hQ0 ?_
  exact RP (v := 0) hC (rfl) (by decide +kernel) gX12_hasOwn_3.2.2.2.2.2.2.1
def K_m_hasOwn42 (l : Launch) (G : GG) : Prop := MP l G yX12_hasOwn cX12_hasOwn 2 (some .boolean) 1 [.int 4, .int 2] [] (fun r : Int32 => r = 1)
set_option maxHeartbeats 4000000 in
set_option maxRecDepth 100000 in
theorem m_hasOwn42 (l : Launch) (G : GG) : K_m_hasOwn42 l G := by
  refine MP.start (by decide +kernel) (Nat.le_of_ble_eq_true rfl) ?_
  intro p e s m below meth c ls hC hK hP hD hl
  refine absQ (fun Q0 hQ0 => ?_)
  have hl : lv_has ls 2 [(0, .int 4), (1, .int 2)] := hl
  refine Kan8 hC (fun hx hb hr hml hB hown hlocks hnm => ?_)
  refine lv_iload_n hx hb gX12_hasOwn_0.1 rfl (lv_at0 hl) ?_
  refine lv_tableIn (tgt := 80) hx hb gX12_hasOwn_0.2.1 (by decide) (by decide) rfl (by decide) ?_
  refine lv_iload_n hx hb gX12_hasOwn_2.2.2.2.2.2.2.2.2.1 rfl (lv_at1 hl) ?_
  refine lv_if_eq (tgt := 89) hx hb gX12_hasOwn_2.2.2.2.2.2.2.2.2.2 (by decide) (fun c9 => absurd c9 (by decide)) (fun _ => ?_)
  refine lv_iload_n hx hb gX12_hasOwn_3.1 rfl (lv_at1 hl) ?_
  refine lv_iconst (v := 2) hx hb gX12_hasOwn_3.2.1 (by decide) ?_
  refine lv_icmp_ne (tgt := 93) hx hb gX12_hasOwn_3.2.2.1 (by decide) (fun c9 => absurd (by decide) c9) (fun _ => ?_)
  refine lv_iconst (v := 1) hx hb gX12_hasOwn_3.2.2.2.1 (by decide) ?_
  refine lv_goto (tgt := 94) hx hb gX12_hasOwn_3.2.2.2.2.1 (by decide) ?_
  refine toQ hQ0 ?_
  exact RP (v := 1) hC (rfl) (by decide +kernel) gX12_hasOwn_3.2.2.2.2.2.2.1
def K_m_hasOwn43 (l : Launch) (G : GG) : Prop := MP l G yX12_hasOwn cX12_hasOwn 2 (some .boolean) 1 [.int 4, .int 3] [] (fun r : Int32 => r = 0)
set_option maxHeartbeats 4000000 in
set_option maxRecDepth 100000 in
theorem m_hasOwn43 (l : Launch) (G : GG) : K_m_hasOwn43 l G := by
  refine MP.start (by decide +kernel) (Nat.le_of_ble_eq_true rfl) ?_
  intro p e s m below meth c ls hC hK hP hD hl
  refine absQ (fun Q0 hQ0 => ?_)
  have hl : lv_has ls 2 [(0, .int 4), (1, .int 3)] := hl
  refine Kan8 hC (fun hx hb hr hml hB hown hlocks hnm => ?_)
  refine lv_iload_n hx hb gX12_hasOwn_0.1 rfl (lv_at0 hl) ?_
  refine lv_tableIn (tgt := 80) hx hb gX12_hasOwn_0.2.1 (by decide) (by decide) rfl (by decide) ?_
  refine lv_iload_n hx hb gX12_hasOwn_2.2.2.2.2.2.2.2.2.1 rfl (lv_at1 hl) ?_
  refine lv_if_eq (tgt := 89) hx hb gX12_hasOwn_2.2.2.2.2.2.2.2.2.2 (by decide) (fun c9 => absurd c9 (by decide)) (fun _ => ?_)
  refine lv_iload_n hx hb gX12_hasOwn_3.1 rfl (lv_at1 hl) ?_
  refine lv_iconst (v := 2) hx hb gX12_hasOwn_3.2.1 (by decide) ?_
  refine lv_icmp_ne (tgt := 93) hx hb gX12_hasOwn_3.2.2.1 (by decide) (fun _ => ?_) (fun c9 => absurd c9 (by decide))
  refine lv_iconst (v := 0) hx hb gX12_hasOwn_3.2.2.2.2.2.1 (by decide) ?_
  refine toQ hQ0 ?_
  exact RP (v := 0) hC (rfl) (by decide +kernel) gX12_hasOwn_3.2.2.2.2.2.2.1
def K_m_hasOwn50 (l : Launch) (G : GG) : Prop := MP l G yX12_hasOwn cX12_hasOwn 2 (some .boolean) 1 [.int 5, .int 0] [] (fun r : Int32 => r = 1)
set_option maxHeartbeats 4000000 in
set_option maxRecDepth 100000 in
theorem m_hasOwn50 (l : Launch) (G : GG) : K_m_hasOwn50 l G := by
  refine MP.start (by decide +kernel) (Nat.le_of_ble_eq_true rfl) ?_
  intro p e s m below meth c ls hC hK hP hD hl
  refine absQ (fun Q0 hQ0 => ?_)
  have hl : lv_has ls 2 [(0, .int 5), (1, .int 0)] := hl
  refine Kan8 hC (fun hx hb hr hml hB hown hlocks hnm => ?_)
  refine lv_iload_n hx hb gX12_hasOwn_0.1 rfl (lv_at0 hl) ?_
  refine lv_tableIn (tgt := 80) hx hb gX12_hasOwn_0.2.1 (by decide) (by decide) rfl (by decide) ?_
  refine lv_iload_n hx hb gX12_hasOwn_2.2.2.2.2.2.2.2.2.1 rfl (lv_at1 hl) ?_
  refine lv_if_eq (tgt := 89) hx hb gX12_hasOwn_2.2.2.2.2.2.2.2.2.2 (by decide) (fun _ => ?_) (fun c9 => absurd (by decide) c9)
  refine lv_iconst (v := 1) hx hb gX12_hasOwn_3.2.2.2.1 (by decide) ?_
  refine lv_goto (tgt := 94) hx hb gX12_hasOwn_3.2.2.2.2.1 (by decide) ?_
  refine toQ hQ0 ?_
  exact RP (v := 1) hC (rfl) (by decide +kernel) gX12_hasOwn_3.2.2.2.2.2.2.1
def K_m_hasOwn51 (l : Launch) (G : GG) : Prop := MP l G yX12_hasOwn cX12_hasOwn 2 (some .boolean) 1 [.int 5, .int 1] [] (fun r : Int32 => r = 0)
set_option maxHeartbeats 4000000 in
set_option maxRecDepth 100000 in
theorem m_hasOwn51 (l : Launch) (G : GG) : K_m_hasOwn51 l G := by
  refine MP.start (by decide +kernel) (Nat.le_of_ble_eq_true rfl) ?_
  intro p e s m below meth c ls hC hK hP hD hl
  refine absQ (fun Q0 hQ0 => ?_)
  have hl : lv_has ls 2 [(0, .int 5), (1, .int 1)] := hl
  refine Kan8 hC (fun hx hb hr hml hB hown hlocks hnm => ?_)
  refine lv_iload_n hx hb gX12_hasOwn_0.1 rfl (lv_at0 hl) ?_
  refine lv_tableIn (tgt := 80) hx hb gX12_hasOwn_0.2.1 (by decide) (by decide) rfl (by decide) ?_
  refine lv_iload_n hx hb gX12_hasOwn_2.2.2.2.2.2.2.2.2.1 rfl (lv_at1 hl) ?_
  refine lv_if_eq (tgt := 89) hx hb gX12_hasOwn_2.2.2.2.2.2.2.2.2.2 (by decide) (fun c9 => absurd c9 (by decide)) (fun _ => ?_)
  refine lv_iload_n hx hb gX12_hasOwn_3.1 rfl (lv_at1 hl) ?_
  refine lv_iconst (v := 2) hx hb gX12_hasOwn_3.2.1 (by decide) ?_
  refine lv_icmp_ne (tgt := 93) hx hb gX12_hasOwn_3.2.2.1 (by decide) (fun _ => ?_) (fun c9 => absurd c9 (by decide))
  refine lv_iconst (v := 0) hx hb gX12_hasOwn_3.2.2.2.2.2.1 (by decide) ?_
  refine toQ hQ0 ?_
  exact RP (v := 0) hC (rfl) (by decide +kernel) gX12_hasOwn_3.2.2.2.2.2.2.1
def K_m_hasOwn52 (l : Launch) (G : GG) : Prop := MP l G yX12_hasOwn cX12_hasOwn 2 (some .boolean) 1 [.int 5, .int 2] [] (fun r : Int32 => r = 1)
set_option maxHeartbeats 4000000 in
set_option maxRecDepth 100000 in
theorem m_hasOwn52 (l : Launch) (G : GG) : K_m_hasOwn52 l G := by
  refine MP.start (by decide +kernel) (Nat.le_of_ble_eq_true rfl) ?_
  intro p e s m below meth c ls hC hK hP hD hl
  refine absQ (fun Q0 hQ0 => ?_)
  have hl : lv_has ls 2 [(0, .int 5), (1, .int 2)] := hl
  refine Kan8 hC (fun hx hb hr hml hB hown hlocks hnm => ?_)
  refine lv_iload_n hx hb gX12_hasOwn_0.1 rfl (lv_at0 hl) ?_
  refine lv_tableIn (tgt := 80) hx hb gX12_hasOwn_0.2.1 (by decide) (by decide) rfl (by decide) ?_
  refine lv_iload_n hx hb gX12_hasOwn_2.2.2.2.2.2.2.2.2.1 rfl (lv_at1 hl) ?_
  refine lv_if_eq (tgt := 89) hx hb gX12_hasOwn_2.2.2.2.2.2.2.2.2.2 (by decide) (fun c9 => absurd c9 (by decide)) (fun _ => ?_)
  refine lv_iload_n hx hb gX12_hasOwn_3.1 rfl (lv_at1 hl) ?_
  refine lv_iconst (v := 2) hx hb gX12_hasOwn_3.2.1 (by decide) ?_
  refine lv_icmp_ne (tgt := 93) hx hb gX12_hasOwn_3.2.2.1 (by decide) (fun c9 => absurd (by decide) c9) (fun _ => ?_)
  refine lv_iconst (v := 1) hx hb gX12_hasOwn_3.2.2.2.1 (by decide) ?_
  refine lv_goto (tgt := 94) hx hb gX12_hasOwn_3.2.2.2.2.1 (by decide) ?_
  refine toQ hQ0 ?_
  exact RP (v := 1) hC (rfl) (by decide +kernel) gX12_hasOwn_3.2.2.2.2.2.2.1
def K_m_hasOwn53 (l : Launch) (G : GG) : Prop := MP l G yX12_hasOwn cX12_hasOwn 2 (some .boolean) 1 [.int 5, .int 3] [] (fun r : Int32 => r = 0)
set_option maxHeartbeats 4000000 in
set_option maxRecDepth 100000 in
theorem m_hasOwn53 (l : Launch) (G : GG) : K_m_hasOwn53 l G := by
  refine MP.start (by decide +kernel) (Nat.le_of_ble_eq_true rfl) ?_
  intro p e s m below meth c ls hC hK hP hD hl
  refine absQ (fun Q0 hQ0 => ?_)
  have hl : lv_has ls 2 [(0, .int 5), (1, .int 3)] := hl
  refine Kan8 hC (fun hx hb hr hml hB hown hlocks hnm => ?_)
  refine lv_iload_n hx hb gX12_hasOwn_0.1 rfl (lv_at0 hl) ?_
  refine lv_tableIn (tgt := 80) hx hb gX12_hasOwn_0.2.1 (by decide) (by decide) rfl (by decide) ?_
  refine lv_iload_n hx hb gX12_hasOwn_2.2.2.2.2.2.2.2.2.1 rfl (lv_at1 hl) ?_
  refine lv_if_eq (tgt := 89) hx hb gX12_hasOwn_2.2.2.2.2.2.2.2.2.2 (by decide) (fun c9 => absurd c9 (by decide)) (fun _ => ?_)
  refine lv_iload_n hx hb gX12_hasOwn_3.1 rfl (lv_at1 hl) ?_
  refine lv_iconst (v := 2) hx hb gX12_hasOwn_3.2.1 (by decide) ?_
  refine lv_icmp_ne (tgt := 93) hx hb gX12_hasOwn_3.2.2.1 (by decide) (fun _ => ?_) (fun c9 => absurd c9 (by decide))
  refine lv_iconst (v := 0) hx hb gX12_hasOwn_3.2.2.2.2.2.1 (by decide) ?_
  refine toQ hQ0 ?_
  exact RP (v := 0) hC (rfl) (by decide +kernel) gX12_hasOwn_3.2.2.2.2.2.2.1
def K_m_hasOwn60 (l : Launch) (G : GG) : Prop := MP l G yX12_hasOwn cX12_hasOwn 2 (some .boolean) 1 [.int 6, .int 0] [] (fun r : Int32 => r = 0)
set_option maxHeartbeats 4000000 in
set_option maxRecDepth 100000 in
theorem m_hasOwn60 (l : Launch) (G : GG) : K_m_hasOwn60 l G := by
  refine MP.start (by decide +kernel) (Nat.le_of_ble_eq_true rfl) ?_
  intro p e s m below meth c ls hC hK hP hD hl
  refine absQ (fun Q0 hQ0 => ?_)
  have hl : lv_has ls 2 [(0, .int 6), (1, .int 0)] := hl
  refine Kan8 hC (fun hx hb hr hml hB hown hlocks hnm => ?_)
  refine lv_iload_n hx hb gX12_hasOwn_0.1 rfl (lv_at0 hl) ?_
  refine lv_tableOut (tgt := 95) hx hb gX12_hasOwn_0.2.1 (by decide) (by decide) ?_
  refine lv_iload_n hx hb gX12_hasOwn_3.2.2.2.2.2.2.2.1 rfl (lv_at1 hl) ?_
  refine lv_iconst (v := 3) hx hb gX12_hasOwn_3.2.2.2.2.2.2.2.2.1 (by decide) ?_
  refine lv_icmp_ne (tgt := 104) hx hb gX12_hasOwn_3.2.2.2.2.2.2.2.2.2 (by decide) (fun _ => ?_) (fun c9 => absurd c9 (by decide))
  refine lv_iconst (v := 0) hx hb gX12_hasOwn_4.2.2.1 (by decide) ?_
  refine toQ hQ0 ?_
  exact RP (v := 0) hC (rfl) (by decide +kernel) gX12_hasOwn_4.2.2.2
def K_m_hasOwn61 (l : Launch) (G : GG) : Prop := MP l G yX12_hasOwn cX12_hasOwn 2 (some .boolean) 1 [.int 6, .int 1] [] (fun r : Int32 => r = 0)
set_option maxHeartbeats 4000000 in
set_option maxRecDepth 100000 in
theorem m_hasOwn61 (l : Launch) (G : GG) : K_m_hasOwn61 l G := by
  refine MP.start (by decide +kernel) (Nat.le_of_ble_eq_true rfl) ?_
  intro p e s m below meth c ls hC hK hP hD hl
  refine absQ (fun Q0 hQ0 => ?_)
  have hl : lv_has ls 2 [(0, .int 6), (1, .int 1)] := hl
  refine Kan8 hC (fun hx hb hr hml hB hown hlocks hnm => ?_)
  refine lv_iload_n hx hb gX12_hasOwn_0.1 rfl (lv_at0 hl) ?_
  refine lv_tableOut (tgt := 95) hx hb gX12_hasOwn_0.2.1 (by decide) (by decide) ?_
  refine lv_iload_n hx hb gX12_hasOwn_3.2.2.2.2.2.2.2.1 rfl (lv_at1 hl) ?_
  refine lv_iconst (v := 3) hx hb gX12_hasOwn_3.2.2.2.2.2.2.2.2.1 (by decide) ?_
  refine lv_icmp_ne (tgt := 104) hx hb gX12_hasOwn_3.2.2.2.2.2.2.2.2.2 (by decide) (fun _ => ?_) (fun c9 => absurd c9 (by decide))
  refine lv_iconst (v := 0) hx hb gX12_hasOwn_4.2.2.1 (by decide) ?_
  refine toQ hQ0 ?_
  exact RP (v := 0) hC (rfl) (by decide +kernel) gX12_hasOwn_4.2.2.2
def K_m_hasOwn62 (l : Launch) (G : GG) : Prop := MP l G yX12_hasOwn cX12_hasOwn 2 (some .boolean) 1 [.int 6, .int 2] [] (fun r : Int32 => r = 0)
set_option maxHeartbeats 4000000 in
set_option maxRecDepth 100000 in
theorem m_hasOwn62 (l : Launch) (G : GG) : K_m_hasOwn62 l G := by
  refine MP.start (by decide +kernel) (Nat.le_of_ble_eq_true rfl) ?_
  intro p e s m below meth c ls hC hK hP hD hl
  refine absQ (fun Q0 hQ0 => ?_)
  have hl : lv_has ls 2 [(0, .int 6), (1, .int 2)] := hl
  refine Kan8 hC (fun hx hb hr hml hB hown hlocks hnm => ?_)
  refine lv_iload_n hx hb gX12_hasOwn_0.1 rfl (lv_at0 hl) ?_
  refine lv_tableOut (tgt := 95) hx hb gX12_hasOwn_0.2.1 (by decide) (by decide) ?_
  refine lv_iload_n hx hb gX12_hasOwn_3.2.2.2.2.2.2.2.1 rfl (lv_at1 hl) ?_
  refine lv_iconst (v := 3) hx hb gX12_hasOwn_3.2.2.2.2.2.2.2.2.1 (by decide) ?_
  refine lv_icmp_ne (tgt := 104) hx hb gX12_hasOwn_3.2.2.2.2.2.2.2.2.2 (by decide) (fun _ => ?_) (fun c9 => absurd c9 (by decide))
  refine lv_iconst (v := 0) hx hb gX12_hasOwn_4.2.2.1 (by decide) ?_
  refine toQ hQ0 ?_
  exact RP (v := 0) hC (rfl) (by decide +kernel) gX12_hasOwn_4.2.2.2
def K_m_hasOwn63 (l : Launch) (G : GG) : Prop := MP l G yX12_hasOwn cX12_hasOwn 2 (some .boolean) 1 [.int 6, .int 3] [] (fun r : Int32 => r = 1)
set_option maxHeartbeats 4000000 in
set_option maxRecDepth 100000 in
theorem m_hasOwn63 (l : Launch) (G : GG) : K_m_hasOwn63 l G := by
  refine MP.start (by decide +kernel) (Nat.le_of_ble_eq_true rfl) ?_
  intro p e s m below meth c ls hC hK hP hD hl
  refine absQ (fun Q0 hQ0 => ?_)
  have hl : lv_has ls 2 [(0, .int 6), (1, .int 3)] := hl
  refine Kan8 hC (fun hx hb hr hml hB hown hlocks hnm => ?_)
  refine lv_iload_n hx hb gX12_hasOwn_0.1 rfl (lv_at0 hl) ?_
  refine lv_tableOut (tgt := 95) hx hb gX12_hasOwn_0.2.1 (by decide) (by decide) ?_
  refine lv_iload_n hx hb gX12_hasOwn_3.2.2.2.2.2.2.2.1 rfl (lv_at1 hl) ?_
  refine lv_iconst (v := 3) hx hb gX12_hasOwn_3.2.2.2.2.2.2.2.2.1 (by decide) ?_
  refine lv_icmp_ne (tgt := 104) hx hb gX12_hasOwn_3.2.2.2.2.2.2.2.2.2 (by decide) (fun c9 => absurd (by decide) c9) (fun _ => ?_)
  refine lv_iconst (v := 1) hx hb gX12_hasOwn_4.1 (by decide) ?_
  refine lv_goto (tgt := 105) hx hb gX12_hasOwn_4.2.1 (by decide) ?_
  refine toQ hQ0 ?_
  exact RP (v := 1) hC (rfl) (by decide +kernel) gX12_hasOwn_4.2.2.2
def K_m_kindOnX (l : Launch) (G : GG) (kq : Nat) (k8 : Nat) (k9 : Nat) (h0 : Nat) (jt : Nat) (nw : Nat) (nk : Nat) (mhasKept : Int32) (nt : Nat) (mtaped : Int32) (nr : Nat) (mrowMany : Int32) (mroundOf : Int32) (mroundFrom : Int32) (mouts : Int32) (nm : Nat) (mfromHour : Int32) (mtoHour : Int32) (ns : Nat) (mfrom : Int32) (mto : Int32) (msort : Int32) (misFault : Int32) (mdeep : Int32) (mcoded : Int32) (mlines : Int32) (nl : Nat) (nc : Nat) (nF : Nat) (np : Nat) (ntr : Nat) (nb : Nat) (mbestCost : Int32) (nso : Nat) (nsi : Nat) (nit : Nat) (nsh : Nat) (nsf : Nat) (nss : Nat) (nrc : Nat) (mtraced : Int32) (mdealer : Int32) (mnumber : Int32) (mwhose : Int32) (msize : Int32) (misParted : Int32) (fnw : Nat → Int32) (fnsh : Nat → Int32) (fnsf : Nat → Int32) : Prop := MP l G yX12_kindOn cX12_kindOn 4 (some .int) 3 [.ref h0, .int (nI jt)] [(h0, oX12 nw nk mhasKept nt mtaped nr mrowMany mroundOf mroundFrom mouts nm mfromHour mtoHour ns mfrom mto msort misFault mdeep mcoded mlines nl nc nF np ntr nb mbestCost nso nsi nit nsh nsf nss nrc mtraced mdealer mnumber mwhose msize misParted), (nw, iA G 1662 fnw), (nsh, iA G 4 fnsh), (nsf, iA G 4 fnsf)] (fun r : Int32 => (r = (-1) ∧ KOM (fnsh jt) (fnsf jt) kq k8 k9 (shf fnw 32) (shf fnw 1424) = (-1)) ∨ (r = 1 ∧ KOM (fnsh jt) (fnsf jt) kq k8 k9 (shf fnw 32) (shf fnw 1424) = 1) ∨ (r = 2 ∧ KOM (fnsh jt) (fnsf jt) kq k8 k9 (shf fnw 32) (shf fnw 1424) = 2) ∨ (r = 3 ∧ KOM (fnsh jt) (fnsf jt) kq k8 k9 (shf fnw 32) (shf fnw 1424) = 3) ∨ (r = 4 ∧ KOM (fnsh jt) (fnsf jt) kq k8 k9 (shf fnw 32) (shf fnw 1424) = 4) ∨ (r = 5 ∧ KOM (fnsh jt) (fnsf jt) kq k8 k9 (shf fnw 32) (shf fnw 1424) = 5) ∨ (r = 6 ∧ KOM (fnsh jt) (fnsf jt) kq k8 k9 (shf fnw 32) (shf fnw 1424) = 6))
set_option maxHeartbeats 4000000 in
set_option maxRecDepth 100000 in
theorem m_kindOnX (l : Launch) (G : GG) (kq : Nat) (k8 : Nat) (k9 : Nat) (h0 : Nat) (jt : Nat) (nw : Nat) (nk : Nat) (mhasKept : Int32) (nt : Nat) (mtaped : Int32) (nr : Nat) (mrowMany : Int32) (mroundOf : Int32) (mroundFrom : Int32) (mouts : Int32) (nm : Nat) (mfromHour : Int32) (mtoHour : Int32) (ns : Nat) (mfrom : Int32) (mto : Int32) (msort : Int32) (misFault : Int32) (mdeep : Int32) (mcoded : Int32) (mlines : Int32) (nl : Nat) (nc : Nat) (nF : Nat) (np : Nat) (ntr : Nat) (nb : Nat) (mbestCost : Int32) (nso : Nat) (nsi : Nat) (nit : Nat) (nsh : Nat) (nsf : Nat) (nss : Nat) (nrc : Nat) (mtraced : Int32) (mdealer : Int32) (mnumber : Int32) (mwhose : Int32) (msize : Int32) (misParted : Int32) (fnw : Nat → Int32) (fnsh : Nat → Int32) (fnsf : Nat → Int32) (hjt : jt < 4) (ekq : fnw 5 = nI kq) (hkq : kq ≤ 12) (ek8 : fnw 8 = nI k8) (hk8 : k8 ≤ 16) (ek9 : fnw 9 = nI k9) (hk9 : k9 ≤ 12) (hN : NI fnw) : K_m_kindOnX l G kq k8 k9 h0 jt nw nk mhasKept nt mtaped nr mrowMany mroundOf mroundFrom mouts nm mfromHour mtoHour ns mfrom mto msort misFault mdeep mcoded mlines nl nc nF np ntr nb mbestCost nso nsi nit nsh nsf nss nrc mtraced mdealer mnumber mwhose msize misParted fnw fnsh fnsf := by
  refine MP.start (by decide +kernel) (Nat.le_of_ble_eq_true rfl) ?_
  intro p e s m below meth c ls hC hK hP hD hl
  refine absQ (fun Q0 hQ0 => ?_)
  have hl : lv_has ls 4 [(0, .ref h0), (1, .int (nI jt))] := hl
  refine Kan8 hC (fun hx hb hr hml hB hown hlocks hnm => ?_)
  refine lv_aload_n hx hb gX12_kindOn_0.1 rfl (lv_at0 hl) ?_
  refine gf_X12_75 hC rfl hK hP 0 rfl rfl gX12_kindOn_0.2.1 ?_
  refine lv_iload_n hx hb gX12_kindOn_0.2.2.1 rfl (lv_at1 hl) ?_
  refine aldN hC hK hP 3 rfl (k := jt) (by omega) (Nat.le_of_ble_eq_true rfl) (v := fnsf jt) rfl gX12_kindOn_0.2.2.2.1 ?_
  refine lv_istore_n (lv' := [(2, .int (fnsf jt)), (0, .ref h0), (1, .int (nI jt))]) hx hb gX12_kindOn_0.2.2.2.2.1 rfl hl (by decide) rfl (fun ls hl => ?_)
  refine lv_aload_n hx hb gX12_kindOn_0.2.2.2.2.2.1 rfl (lv_at1 hl) ?_
  refine gf_X12_72 hC rfl hK hP 0 rfl rfl gX12_kindOn_0.2.2.2.2.2.2.1 ?_
  refine lv_iload_n hx hb gX12_kindOn_0.2.2.2.2.2.2.2.1 rfl (lv_at2 hl) ?_
  refine aldN hC hK hP 2 rfl (k := jt) (by omega) (Nat.le_of_ble_eq_true rfl) (v := fnsh jt) rfl gX12_kindOn_0.2.2.2.2.2.2.2.2.1 ?_
  by_cases c_13_6008 : fnsh jt = 1
  · refine lv_tableIn (tgt := 40) hx hb gX12_kindOn_0.2.2.2.2.2.2.2.2.2 (by rw [c_13_6008]; decide) (by rw [c_13_6008]; decide) (by rw [c_13_6008]; rfl) (by decide) ?_
    refine lv_aload_n hx hb gX12_kindOn_1.1 rfl (lv_at1 hl) ?_
    refine lv_iload_n hx hb gX12_kindOn_1.2.1 rfl (lv_at0 hl) ?_
    refine lv_iconst (v := 5) hx hb gX12_kindOn_1.2.2.1 (by decide) ?_
    refine pV hC hK hl hP hD (m_is l G kq h0 (fnsf jt) 5 nw nk mhasKept nt mtaped nr mrowMany mroundOf mroundFrom mouts nm mfromHour mtoHour ns mfrom mto msort misFault mdeep mcoded mlines nl nc nF np ntr nb mbestCost nso nsi nit nsh nsf nss nrc mtraced mdealer mnumber mwhose msize misParted fnw (by omega) (ekq) (by omega)) si_X12_120 [0, 1] sm_0_1 fm_0_1 nd_0_1 rfl rfl rfl rfl rfl (Nat.le_of_ble_eq_true rfl) rm_3_2_3 ⟨by first | exact Nat.le_of_ble_eq_true rfl | exact Nat.zero_le _, by first | exact Nat.le_of_ble_eq_true rfl | exact Nat.zero_le _⟩ gX12_kindOn_1.2.2.2.1 (Kors (Keqa fun a6010 => ?_) (Keqa fun a6010 => ?_))
    · refine lv_if_eq (tgt := 73) hx hb gX12_kindOn_1.2.2.2.2.1 (by decide) (fun c9 => absurd c9 (by decide)) (fun _ => ?_)
      refine lv_aload_n hx hb gX12_kindOn_1.2.2.2.2.2.1 rfl (lv_at1 hl) ?_
      refine lv_iload_n hx hb gX12_kindOn_1.2.2.2.2.2.2.1 rfl (lv_at0 hl) ?_
      obtain ⟨jn6011, hjn6011, ekjn6011⟩ := Hs_nat (by omega) a6010
      refine eqi (x1 := nI jn6011) ekjn6011 ?_
      refine lv_iconst (v := 1) hx hb gX12_kindOn_1.2.2.2.2.2.2.2.1 (by decide) ?_
      refine pV hC hK hl hP hD (m_paper l G h0 jn6011 1 nw nk mhasKept nt mtaped nr mrowMany mroundOf mroundFrom mouts nm mfromHour mtoHour ns mfrom mto msort misFault mdeep mcoded mlines nl nc nF np ntr nb mbestCost nso nsi nit nsh nsf nss nrc mtraced mdealer mnumber mwhose msize misParted fnw (by omega) (by omega)) si_X12_88 [0, 1] sm_0_1 fm_0_1 nd_0_1 rfl rfl rfl rfl rfl (Nat.le_of_ble_eq_true rfl) rm_3_1_3 ⟨by first | exact Nat.le_of_ble_eq_true rfl | exact Nat.zero_le _, by first | exact Nat.le_of_ble_eq_true rfl | exact Nat.zero_le _⟩ gX12_kindOn_1.2.2.2.2.2.2.2.2.1 (Keqr ?_)
      refine lv_iconst (v := 1) hx hb gX12_kindOn_1.2.2.2.2.2.2.2.2.2 (by decide) ?_
      refine lv_aload_n hx hb gX12_kindOn_2.1 rfl (lv_at1 hl) ?_
      refine lv_iload_n hx hb gX12_kindOn_2.2.1 rfl (lv_at0 hl) ?_
      refine eqi (x1 := nI jn6011) ekjn6011 ?_
      refine lv_iconst (v := 0) hx hb gX12_kindOn_2.2.2.1 (by decide) ?_
      refine pV hC hK hl hP hD (m_paper l G h0 jn6011 0 nw nk mhasKept nt mtaped nr mrowMany mroundOf mroundFrom mouts nm mfromHour mtoHour ns mfrom mto msort misFault mdeep mcoded mlines nl nc nF np ntr nb mbestCost nso nsi nit nsh nsf nss nrc mtraced mdealer mnumber mwhose msize misParted fnw (by omega) (by omega)) si_X12_88 [0, 1] sm_0_1 fm_0_1 nd_0_1 rfl rfl rfl rfl rfl (Nat.le_of_ble_eq_true rfl) rm_3_1_3 ⟨by first | exact Nat.le_of_ble_eq_true rfl | exact Nat.zero_le _, by first | exact Nat.le_of_ble_eq_true rfl | exact Nat.zero_le _⟩ gX12_kindOn_2.2.2.2.1 (Keqr ?_)
      refine lv_ishl hx hb gX12_kindOn_2.2.2.2.2.1 ?_
      refine lv_iconst (v := (-1)) hx hb gX12_kindOn_2.2.2.2.2.2.1 (by decide) ?_
      refine lv_ixor hx hb gX12_kindOn_2.2.2.2.2.2.2.1 ?_
      refine lv_iand hx hb gX12_kindOn_2.2.2.2.2.2.2.2.1 ?_
      refine lv_if_eq (tgt := 73) hx hb gX12_kindOn_2.2.2.2.2.2.2.2.2.1 (by decide) (fun c_66_6016 => ?_) (fun c_66_6016 => ?_)
      · refine lv_iconst (v := 0) hx hb gX12_kindOn_3.2.1 (by decide) ?_
        refine lv_istore_n (lv' := [(3, .int 0), (2, .int (fnsf jt)), (0, .ref h0), (1, .int (nI jt))]) hx hb gX12_kindOn_3.2.2.1 rfl hl (by decide) rfl (fun ls hl => ?_)
        refine lv_aload_n hx hb gX12_kindOn_3.2.2.2.1 rfl (lv_at2 hl) ?_
        refine lv_iload_n hx hb gX12_kindOn_3.2.2.2.2.1 rfl (lv_at1 hl) ?_
        refine lv_iconst (v := 5) hx hb gX12_kindOn_3.2.2.2.2.2.1 (by decide) ?_
        refine pV hC hK hl hP hD (m_is l G kq h0 (fnsf jt) 5 nw nk mhasKept nt mtaped nr mrowMany mroundOf mroundFrom mouts nm mfromHour mtoHour ns mfrom mto msort misFault mdeep mcoded mlines nl nc nF np ntr nb mbestCost nso nsi nit nsh nsf nss nrc mtraced mdealer mnumber mwhose msize misParted fnw (by omega) (ekq) (by omega)) si_X12_120 [0, 1] sm_0_1 fm_0_1 nd_0_1 rfl rfl rfl rfl rfl (Nat.le_of_ble_eq_true rfl) rm_3_2_3 ⟨by first | exact Nat.le_of_ble_eq_true rfl | exact Nat.zero_le _, by first | exact Nat.le_of_ble_eq_true rfl | exact Nat.zero_le _⟩ gX12_kindOn_3.2.2.2.2.2.2.1 (Kors (Keqa fun a6018 => ?_) (Keqa fun a6018 => ?_))
        · refine lv_if_ne (tgt := 88) hx hb gX12_kindOn_3.2.2.2.2.2.2.2.1 (by decide) (fun _ => ?_) (fun c9 => absurd c9 (by decide))
          refine lv_iload_n hx hb gX12_kindOn_4.1 rfl (lv_at0 hl) ?_
          refine lv_if_ne (tgt := 96) hx hb gX12_kindOn_4.2.1 (by decide) (fun c9 => absurd (by decide) c9) (fun _ => ?_)
          refine lv_iconst (v := 2) hx hb gX12_kindOn_4.2.2.1 (by decide) ?_
          refine lv_goto (tgt := 110) hx hb gX12_kindOn_4.2.2.2.1 (by decide) ?_
          refine toQ hQ0 ?_
          exact RP (v := 2) hC (Or.inr (Or.inr (Or.inl (⟨rfl, (by unfold KOM; simp only [ifc_t hjt, ifc_t ekq, ifc_t hkq, ifc_t ek8, ifc_t hk8, ifc_t ek9, ifc_t hk9, ifc_t hN, ifc_t c_13_6008, ifc_t a6018, ifc_t c_66_6016, ifc_f (q := fnsh jt = 2) (by rw [c_13_6008]; decide), ifc_f (q := fnsh jt = 3) (by rw [c_13_6008]; decide)]; unfold PKn; rw [show shf fnw 32 ((fnsf jt).toNatClampNeg * 6 + 1) = fnw (32 + 6 * jn6011 + 1) from congrArg fnw (by rw [ekjn6011, nI_clamp (n := jn6011) (by omega)]; omega), show shf fnw 32 ((fnsf jt).toNatClampNeg * 6 + 0) = fnw (32 + 6 * jn6011 + 0) from congrArg fnw (by rw [ekjn6011, nI_clamp (n := jn6011) (by omega)]; omega), ifn_t c_66_6016]; first | done | rfl)⟩)))) rfl gX12_kindOn_5.2.2.1
        · exact absurd a6010 a6018
      · refine lv_iconst (v := 1) hx hb gX12_kindOn_2.2.2.2.2.2.2.2.2.2 (by decide) ?_
        refine lv_goto (tgt := 74) hx hb gX12_kindOn_3.1 (by decide) ?_
        refine lv_istore_n (lv' := [(3, .int 1), (2, .int (fnsf jt)), (0, .ref h0), (1, .int (nI jt))]) hx hb gX12_kindOn_3.2.2.1 rfl hl (by decide) rfl (fun ls hl => ?_)
        refine lv_aload_n hx hb gX12_kindOn_3.2.2.2.1 rfl (lv_at2 hl) ?_
        refine lv_iload_n hx hb gX12_kindOn_3.2.2.2.2.1 rfl (lv_at1 hl) ?_
        refine lv_iconst (v := 5) hx hb gX12_kindOn_3.2.2.2.2.2.1 (by decide) ?_
        refine pV hC hK hl hP hD (m_is l G kq h0 (fnsf jt) 5 nw nk mhasKept nt mtaped nr mrowMany mroundOf mroundFrom mouts nm mfromHour mtoHour ns mfrom mto msort misFault mdeep mcoded mlines nl nc nF np ntr nb mbestCost nso nsi nit nsh nsf nss nrc mtraced mdealer mnumber mwhose msize misParted fnw (by omega) (ekq) (by omega)) si_X12_120 [0, 1] sm_0_1 fm_0_1 nd_0_1 rfl rfl rfl rfl rfl (Nat.le_of_ble_eq_true rfl) rm_3_2_3 ⟨by first | exact Nat.le_of_ble_eq_true rfl | exact Nat.zero_le _, by first | exact Nat.le_of_ble_eq_true rfl | exact Nat.zero_le _⟩ gX12_kindOn_3.2.2.2.2.2.2.1 (Kors (Keqa fun a6020 => ?_) (Keqa fun a6020 => ?_))
        · refine lv_if_ne (tgt := 88) hx hb gX12_kindOn_3.2.2.2.2.2.2.2.1 (by decide) (fun _ => ?_) (fun c9 => absurd c9 (by decide))
          refine lv_iload_n hx hb gX12_kindOn_4.1 rfl (lv_at0 hl) ?_
          refine lv_if_ne (tgt := 96) hx hb gX12_kindOn_4.2.1 (by decide) (fun _ => ?_) (fun c9 => absurd c9 (by decide))
          refine lv_aload_n hx hb gX12_kindOn_4.2.2.2.2.1 rfl (lv_at2 hl) ?_
          refine lv_iload_n hx hb gX12_kindOn_4.2.2.2.2.2.1 rfl (lv_at1 hl) ?_
          refine eqi (x1 := nI jn6011) ekjn6011 ?_
          refine lv_iconst (v := 3) hx hb gX12_kindOn_4.2.2.2.2.2.2.1 (by decide) ?_
          refine pV hC hK hl hP hD (m_paper l G h0 jn6011 3 nw nk mhasKept nt mtaped nr mrowMany mroundOf mroundFrom mouts nm mfromHour mtoHour ns mfrom mto msort misFault mdeep mcoded mlines nl nc nF np ntr nb mbestCost nso nsi nit nsh nsf nss nrc mtraced mdealer mnumber mwhose msize misParted fnw (by omega) (by omega)) si_X12_88 [0, 1] sm_0_1 fm_0_1 nd_0_1 rfl rfl rfl rfl rfl (Nat.le_of_ble_eq_true rfl) rm_3_1_3 ⟨by first | exact Nat.le_of_ble_eq_true rfl | exact Nat.zero_le _, by first | exact Nat.le_of_ble_eq_true rfl | exact Nat.zero_le _⟩ gX12_kindOn_4.2.2.2.2.2.2.2.1 (Keqr ?_)
          refine lv_if_le (tgt := 109) hx hb gX12_kindOn_4.2.2.2.2.2.2.2.2.1 (by decide) (fun c_102_6023 => ?_) (fun c_102_6023 => ?_)
          · refine lv_iconst (v := 1) hx hb gX12_kindOn_5.2.1 (by decide) ?_
            refine toQ hQ0 ?_
            exact RP (v := 1) hC (Or.inr (Or.inl (⟨rfl, (by unfold KOM; simp only [ifc_t hjt, ifc_t ekq, ifc_t hkq, ifc_t ek8, ifc_t hk8, ifc_t ek9, ifc_t hk9, ifc_t hN, ifc_t c_13_6008, ifc_t a6020, ifc_f c_66_6016, ifc_t c_102_6023, ifc_f (q := fnsh jt = 2) (by rw [c_13_6008]; decide), ifc_f (q := fnsh jt = 3) (by rw [c_13_6008]; decide)]; unfold PKn; rw [show shf fnw 32 ((fnsf jt).toNatClampNeg * 6 + 1) = fnw (32 + 6 * jn6011 + 1) from congrArg fnw (by rw [ekjn6011, nI_clamp (n := jn6011) (by omega)]; omega), show shf fnw 32 ((fnsf jt).toNatClampNeg * 6 + 0) = fnw (32 + 6 * jn6011 + 0) from congrArg fnw (by rw [ekjn6011, nI_clamp (n := jn6011) (by omega)]; omega), show shf fnw 32 ((fnsf jt).toNatClampNeg * 6 + 3) = fnw (32 + 6 * jn6011 + 3) from congrArg fnw (by rw [ekjn6011, nI_clamp (n := jn6011) (by omega)]; omega), ifn_f c_66_6016, ifn_f (Int32.not_lt.mpr c_102_6023)]; first | done | rfl)⟩))) rfl gX12_kindOn_5.2.2.1
          · refine lv_iconst (v := 3) hx hb gX12_kindOn_4.2.2.2.2.2.2.2.2.2 (by decide) ?_
            refine lv_goto (tgt := 110) hx hb gX12_kindOn_5.1 (by decide) ?_
            refine toQ hQ0 ?_
            exact RP (v := 3) hC (Or.inr (Or.inr (Or.inr (Or.inl (⟨rfl, (by unfold KOM; simp only [ifc_t hjt, ifc_t ekq, ifc_t hkq, ifc_t ek8, ifc_t hk8, ifc_t ek9, ifc_t hk9, ifc_t hN, ifc_t c_13_6008, ifc_t a6020, ifc_f c_66_6016, ifc_f c_102_6023, ifc_f (q := fnsh jt = 2) (by rw [c_13_6008]; decide), ifc_f (q := fnsh jt = 3) (by rw [c_13_6008]; decide)]; unfold PKn; rw [show shf fnw 32 ((fnsf jt).toNatClampNeg * 6 + 1) = fnw (32 + 6 * jn6011 + 1) from congrArg fnw (by rw [ekjn6011, nI_clamp (n := jn6011) (by omega)]; omega), show shf fnw 32 ((fnsf jt).toNatClampNeg * 6 + 0) = fnw (32 + 6 * jn6011 + 0) from congrArg fnw (by rw [ekjn6011, nI_clamp (n := jn6011) (by omega)]; omega), show shf fnw 32 ((fnsf jt).toNatClampNeg * 6 + 3) = fnw (32 + 6 * jn6011 + 3) from congrArg fnw (by rw [ekjn6011, nI_clamp (n := jn6011) (by omega)]; omega), ifn_f c_66_6016, ifn_t (Int32.not_le.mp c_102_6023)]; first | done | rfl)⟩))))) rfl gX12_kindOn_5.2.2.1
        · exact absurd a6010 a6020
    · refine lv_if_eq (tgt := 73) hx hb gX12_kindOn_1.2.2.2.2.1 (by decide) (fun _ => ?_) (fun c9 => absurd (by decide) c9)
      refine lv_iconst (v := 0) hx hb gX12_kindOn_3.2.1 (by decide) ?_
      refine lv_istore_n (lv' := [(3, .int 0), (2, .int (fnsf jt)), (0, .ref h0), (1, .int (nI jt))]) hx hb gX12_kindOn_3.2.2.1 rfl hl (by decide) rfl (fun ls hl => ?_)
      refine lv_aload_n hx hb gX12_kindOn_3.2.2.2.1 rfl (lv_at2 hl) ?_
      refine lv_iload_n hx hb gX12_kindOn_3.2.2.2.2.1 rfl (lv_at1 hl) ?_
      refine lv_iconst (v := 5) hx hb gX12_kindOn_3.2.2.2.2.2.1 (by decide) ?_
      refine pV hC hK hl hP hD (m_is l G kq h0 (fnsf jt) 5 nw nk mhasKept nt mtaped nr mrowMany mroundOf mroundFrom mouts nm mfromHour mtoHour ns mfrom mto msort misFault mdeep mcoded mlines nl nc nF np ntr nb mbestCost nso nsi nit nsh nsf nss nrc mtraced mdealer mnumber mwhose msize misParted fnw (by omega) (ekq) (by omega)) si_X12_120 [0, 1] sm_0_1 fm_0_1 nd_0_1 rfl rfl rfl rfl rfl (Nat.le_of_ble_eq_true rfl) rm_3_2_3 ⟨by first | exact Nat.le_of_ble_eq_true rfl | exact Nat.zero_le _, by first | exact Nat.le_of_ble_eq_true rfl | exact Nat.zero_le _⟩ gX12_kindOn_3.2.2.2.2.2.2.1 (Kors (Keqa fun a6025 => ?_) (Keqa fun a6025 => ?_))
      · exact absurd a6025 a6010
      · refine lv_if_ne (tgt := 88) hx hb gX12_kindOn_3.2.2.2.2.2.2.2.1 (by decide) (fun c9 => absurd (by decide) c9) (fun _ => ?_)
        refine lv_iconst (v := (-1)) hx hb gX12_kindOn_3.2.2.2.2.2.2.2.2.1 (by decide) ?_
        refine lv_goto (tgt := 110) hx hb gX12_kindOn_3.2.2.2.2.2.2.2.2.2 (by decide) ?_
        refine toQ hQ0 ?_
        exact RP (v := (-1)) hC (Or.inl (⟨rfl, (by unfold KOM; first | (simp only [ifc_t hjt, ifc_t ekq, ifc_t hkq, ifc_t ek8, ifc_t hk8, ifc_t ek9, ifc_t hk9, ifc_t hN, ifc_t c_13_6008, ifc_f a6025, ifc_f (q := fnsh jt = 2) (by rw [c_13_6008]; decide), ifc_f (q := fnsh jt = 3) (by rw [c_13_6008]; decide)]; done) | (simp only [ifc_t hjt, ifc_t ekq, ifc_t hkq, ifc_t ek8, ifc_t hk8, ifc_t ek9, ifc_t hk9, ifc_t hN, ifc_t c_13_6008, ifc_f a6025, ifc_f (q := fnsh jt = 2) (by rw [c_13_6008]; decide), ifc_f (q := fnsh jt = 3) (by rw [c_13_6008]; decide)]; rfl))⟩)) rfl gX12_kindOn_5.2.2.1
  by_cases c_13_6026 : fnsh jt = 2
  · refine lv_tableIn (tgt := 111) hx hb gX12_kindOn_0.2.2.2.2.2.2.2.2.2 (by rw [c_13_6026]; decide) (by rw [c_13_6026]; decide) (by rw [c_13_6026]; rfl) (by decide) ?_
    refine lv_aload_n hx hb gX12_kindOn_5.2.2.2.1 rfl (lv_at1 hl) ?_
    refine lv_iload_n hx hb gX12_kindOn_5.2.2.2.2.1 rfl (lv_at0 hl) ?_
    refine lv_bipush (v := 8) hx hb gX12_kindOn_5.2.2.2.2.2.1 (by decide) ?_
    refine pV hC hK hl hP hD (m_is l G k8 h0 (fnsf jt) 8 nw nk mhasKept nt mtaped nr mrowMany mroundOf mroundFrom mouts nm mfromHour mtoHour ns mfrom mto msort misFault mdeep mcoded mlines nl nc nF np ntr nb mbestCost nso nsi nit nsh nsf nss nrc mtraced mdealer mnumber mwhose msize misParted fnw (by omega) (ek8) (by omega)) si_X12_120 [0, 1] sm_0_1 fm_0_1 nd_0_1 rfl rfl rfl rfl rfl (Nat.le_of_ble_eq_true rfl) rm_3_2_3 ⟨by first | exact Nat.le_of_ble_eq_true rfl | exact Nat.zero_le _, by first | exact Nat.le_of_ble_eq_true rfl | exact Nat.zero_le _⟩ gX12_kindOn_5.2.2.2.2.2.2.1 (Kors (Keqa fun a6028 => ?_) (Keqa fun a6028 => ?_))
    · refine lv_if_ne (tgt := 125) hx hb gX12_kindOn_5.2.2.2.2.2.2.2.1 (by decide) (fun _ => ?_) (fun c9 => absurd c9 (by decide))
      refine lv_aload_n hx hb gX12_kindOn_6.1 rfl (lv_at1 hl) ?_
      refine lv_iload_n hx hb gX12_kindOn_6.2.1 rfl (lv_at0 hl) ?_
      obtain ⟨jn6029, hjn6029, ekjn6029⟩ := Hs_nat (by omega) a6028
      refine eqi (x1 := nI jn6029) ekjn6029 ?_
      refine lv_bipush (v := 6) hx hb gX12_kindOn_6.2.2.1 (by decide) ?_
      refine pV hC hK hl hP hD (m_saying l G h0 jn6029 6 nw nk mhasKept nt mtaped nr mrowMany mroundOf mroundFrom mouts nm mfromHour mtoHour ns mfrom mto msort misFault mdeep mcoded mlines nl nc nF np ntr nb mbestCost nso nsi nit nsh nsf nss nrc mtraced mdealer mnumber mwhose msize misParted fnw (by omega) (by omega)) si_X12_114 [0, 1] sm_0_1 fm_0_1 nd_0_1 rfl rfl rfl rfl rfl (Nat.le_of_ble_eq_true rfl) rm_3_1_3 ⟨by first | exact Nat.le_of_ble_eq_true rfl | exact Nat.zero_le _, by first | exact Nat.le_of_ble_eq_true rfl | exact Nat.zero_le _⟩ gX12_kindOn_6.2.2.2.1 (Keqr ?_)
      refine lv_if_ge (tgt := 139) hx hb gX12_kindOn_6.2.2.2.2.1 (by decide) (fun c_132_6032 => ?_) (fun c_132_6032 => ?_)
      · refine lv_iconst (v := 4) hx hb gX12_kindOn_6.2.2.2.2.2.2.2.1 (by decide) ?_
        refine toQ hQ0 ?_
        exact RP (v := 4) hC (Or.inr (Or.inr (Or.inr (Or.inr (Or.inl (⟨rfl, (by unfold KOM; simp only [ifc_t hjt, ifc_t ekq, ifc_t hkq, ifc_t ek8, ifc_t hk8, ifc_t ek9, ifc_t hk9, ifc_t hN, ifc_f c_13_6008, ifc_t c_13_6026, ifc_t a6028, ifc_t c_132_6032, ifc_f (q := fnsh jt = 1) (by rw [c_13_6026]; decide), ifc_f (q := fnsh jt = 3) (by rw [c_13_6026]; decide)]; unfold SKn; rw [show shf fnw 1424 ((fnsf jt).toNatClampNeg * 8 + 6) = fnw (1424 + 8 * jn6029 + 6) from congrArg fnw (by rw [ekjn6029, nI_clamp (n := jn6029) (by omega)]; omega), ifn_f (Int32.not_lt.mpr c_132_6032)]; first | done | rfl)⟩)))))) rfl gX12_kindOn_6.2.2.2.2.2.2.2.2.1
      · refine lv_iconst (v := 5) hx hb gX12_kindOn_6.2.2.2.2.2.1 (by decide) ?_
        refine lv_goto (tgt := 140) hx hb gX12_kindOn_6.2.2.2.2.2.2.1 (by decide) ?_
        refine toQ hQ0 ?_
        exact RP (v := 5) hC (Or.inr (Or.inr (Or.inr (Or.inr (Or.inr (Or.inl (⟨rfl, (by unfold KOM; simp only [ifc_t hjt, ifc_t ekq, ifc_t hkq, ifc_t ek8, ifc_t hk8, ifc_t ek9, ifc_t hk9, ifc_t hN, ifc_f c_13_6008, ifc_t c_13_6026, ifc_t a6028, ifc_f c_132_6032, ifc_f (q := fnsh jt = 1) (by rw [c_13_6026]; decide), ifc_f (q := fnsh jt = 3) (by rw [c_13_6026]; decide)]; unfold SKn; rw [show shf fnw 1424 ((fnsf jt).toNatClampNeg * 8 + 6) = fnw (1424 + 8 * jn6029 + 6) from congrArg fnw (by rw [ekjn6029, nI_clamp (n := jn6029) (by omega)]; omega), ifn_t (Int32.not_le.mp c_132_6032)]; first | done | rfl)⟩))))))) rfl gX12_kindOn_6.2.2.2.2.2.2.2.2.1
    · refine lv_if_ne (tgt := 125) hx hb gX12_kindOn_5.2.2.2.2.2.2.2.1 (by decide) (fun c9 => absurd (by decide) c9) (fun _ => ?_)
      refine lv_iconst (v := (-1)) hx hb gX12_kindOn_5.2.2.2.2.2.2.2.2.1 (by decide) ?_
      refine lv_goto (tgt := 140) hx hb gX12_kindOn_5.2.2.2.2.2.2.2.2.2 (by decide) ?_
      refine toQ hQ0 ?_
      exact RP (v := (-1)) hC (Or.inl (⟨rfl, (by unfold KOM; first | (simp only [ifc_t hjt, ifc_t ekq, ifc_t hkq, ifc_t ek8, ifc_t hk8, ifc_t ek9, ifc_t hk9, ifc_t hN, ifc_f c_13_6008, ifc_t c_13_6026, ifc_f a6028, ifc_f (q := fnsh jt = 1) (by rw [c_13_6026]; decide), ifc_f (q := fnsh jt = 3) (by rw [c_13_6026]; decide)]; done) | (simp only [ifc_t hjt, ifc_t ekq, ifc_t hkq, ifc_t ek8, ifc_t hk8, ifc_t ek9, ifc_t hk9, ifc_t hN, ifc_f c_13_6008, ifc_t c_13_6026, ifc_f a6028, ifc_f (q := fnsh jt = 1) (by rw [c_13_6026]; decide), ifc_f (q := fnsh jt = 3) (by rw [c_13_6026]; decide)]; rfl))⟩)) rfl gX12_kindOn_6.2.2.2.2.2.2.2.2.1
  by_cases c_13_6033 : fnsh jt = 3
  · refine lv_tableIn (tgt := 141) hx hb gX12_kindOn_0.2.2.2.2.2.2.2.2.2 (by rw [c_13_6033]; decide) (by rw [c_13_6033]; decide) (by rw [c_13_6033]; rfl) (by decide) ?_
    refine lv_aload_n hx hb gX12_kindOn_6.2.2.2.2.2.2.2.2.2 rfl (lv_at1 hl) ?_
    refine lv_iload_n hx hb gX12_kindOn_7.1 rfl (lv_at0 hl) ?_
    refine lv_bipush (v := 9) hx hb gX12_kindOn_7.2.1 (by decide) ?_
    refine pV hC hK hl hP hD (m_is l G k9 h0 (fnsf jt) 9 nw nk mhasKept nt mtaped nr mrowMany mroundOf mroundFrom mouts nm mfromHour mtoHour ns mfrom mto msort misFault mdeep mcoded mlines nl nc nF np ntr nb mbestCost nso nsi nit nsh nsf nss nrc mtraced mdealer mnumber mwhose msize misParted fnw (by omega) (ek9) (by omega)) si_X12_120 [0, 1] sm_0_1 fm_0_1 nd_0_1 rfl rfl rfl rfl rfl (Nat.le_of_ble_eq_true rfl) rm_3_2_3 ⟨by first | exact Nat.le_of_ble_eq_true rfl | exact Nat.zero_le _, by first | exact Nat.le_of_ble_eq_true rfl | exact Nat.zero_le _⟩ gX12_kindOn_7.2.2.1 (Kors (Keqa fun a6035 => ?_) (Keqa fun a6035 => ?_))
    · refine lv_if_eq (tgt := 156) hx hb gX12_kindOn_7.2.2.2.1 (by decide) (fun c9 => absurd c9 (by decide)) (fun _ => ?_)
      refine lv_bipush (v := 6) hx hb gX12_kindOn_7.2.2.2.2.1 (by decide) ?_
      refine lv_goto (tgt := 157) hx hb gX12_kindOn_7.2.2.2.2.2.1 (by decide) ?_
      refine toQ hQ0 ?_
      exact RP (v := 6) hC (Or.inr (Or.inr (Or.inr (Or.inr (Or.inr (Or.inr (⟨rfl, (by unfold KOM; first | (simp only [ifc_t hjt, ifc_t ekq, ifc_t hkq, ifc_t ek8, ifc_t hk8, ifc_t ek9, ifc_t hk9, ifc_t hN, ifc_f c_13_6008, ifc_f c_13_6026, ifc_t c_13_6033, ifc_t a6035, ifc_f (q := fnsh jt = 1) (by rw [c_13_6033]; decide), ifc_f (q := fnsh jt = 2) (by rw [c_13_6033]; decide)]; done) | (simp only [ifc_t hjt, ifc_t ekq, ifc_t hkq, ifc_t ek8, ifc_t hk8, ifc_t ek9, ifc_t hk9, ifc_t hN, ifc_f c_13_6008, ifc_f c_13_6026, ifc_t c_13_6033, ifc_t a6035, ifc_f (q := fnsh jt = 1) (by rw [c_13_6033]; decide), ifc_f (q := fnsh jt = 2) (by rw [c_13_6033]; decide)]; rfl))⟩))))))) rfl gX12_kindOn_7.2.2.2.2.2.2.2.1
    · refine lv_if_eq (tgt := 156) hx hb gX12_kindOn_7.2.2.2.1 (by decide) (fun _ => ?_) (fun c9 => absurd (by decide) c9)
      refine lv_iconst (v := (-1)) hx hb gX12_kindOn_7.2.2.2.2.2.2.1 (by decide) ?_
      refine toQ hQ0 ?_
      exact RP (v := (-1)) hC (Or.inl (⟨rfl, (by unfold KOM; first | (simp only [ifc_t hjt, ifc_t ekq, ifc_t hkq, ifc_t ek8, ifc_t hk8, ifc_t ek9, ifc_t hk9, ifc_t hN, ifc_f c_13_6008, ifc_f c_13_6026, ifc_t c_13_6033, ifc_f a6035, ifc_f (q := fnsh jt = 1) (by rw [c_13_6033]; decide), ifc_f (q := fnsh jt = 2) (by rw [c_13_6033]; decide)]; done) | (simp only [ifc_t hjt, ifc_t ekq, ifc_t hkq, ifc_t ek8, ifc_t hk8, ifc_t ek9, ifc_t hk9, ifc_t hN, ifc_f c_13_6008, ifc_f c_13_6026, ifc_t c_13_6033, ifc_f a6035, ifc_f (q := fnsh jt = 1) (by rw [c_13_6033]; decide), ifc_f (q := fnsh jt = 2) (by rw [c_13_6033]; decide)]; rfl))⟩)) rfl gX12_kindOn_7.2.2.2.2.2.2.2.1
  refine lv_tableOut (tgt := 158) hx hb gX12_kindOn_0.2.2.2.2.2.2.2.2.2 (by have q9 := sw_1_3 (x := fnsh jt); simp only [c_13_6008, c_13_6026, c_13_6033, not_false_eq_true, true_implies] at q9; exact q9) (by decide) ?_
  refine lv_iconst (v := (-1)) hx hb gX12_kindOn_7.2.2.2.2.2.2.2.2.1 (by decide) ?_
  refine toQ hQ0 ?_
  exact RP (v := (-1)) hC (Or.inl (⟨rfl, (by unfold KOM; first | (simp only [ifc_t hjt, ifc_t ekq, ifc_t hkq, ifc_t ek8, ifc_t hk8, ifc_t ek9, ifc_t hk9, ifc_t hN, ifc_f c_13_6008, ifc_f c_13_6026, ifc_f c_13_6033]; done) | (simp only [ifc_t hjt, ifc_t ekq, ifc_t hkq, ifc_t ek8, ifc_t hk8, ifc_t ek9, ifc_t hk9, ifc_t hN, ifc_f c_13_6008, ifc_f c_13_6026, ifc_f c_13_6033]; rfl))⟩)) rfl gX12_kindOn_7.2.2.2.2.2.2.2.2.2
def K_r_taken (l : Launch) (G : GG) (kq : Nat) (k8 : Nat) (k9 : Nat) (h0 : Nat) (x1 : Int32) (x2 : Int32) (nw : Nat) (nk : Nat) (mhasKept : Int32) (nt : Nat) (mtaped : Int32) (nr : Nat) (mrowMany : Int32) (mroundOf : Int32) (mroundFrom : Int32) (mouts : Int32) (nm : Nat) (mfromHour : Int32) (mtoHour : Int32) (ns : Nat) (mfrom : Int32) (mto : Int32) (msort : Int32) (misFault : Int32) (mdeep : Int32) (mcoded : Int32) (mlines : Int32) (nl : Nat) (nc : Nat) (nF : Nat) (np : Nat) (ntr : Nat) (nb : Nat) (mbestCost : Int32) (nso : Nat) (nsi : Nat) (nit : Nat) (nsh : Nat) (nsf : Nat) (nss : Nat) (nrc : Nat) (mtraced : Int32) (mdealer : Int32) (mnumber : Int32) (mwhose : Int32) (msize : Int32) (misParted : Int32) (fnw : Nat → Int32) (fnsh : Nat → Int32) (fnsf : Nat → Int32) (fnss : Nat → Int32) : Prop := MP l G yX12_taken cX12_taken 4 (some .int) 4 [.ref h0, .int x1, .int x2] [(h0, oX12 nw nk mhasKept nt mtaped nr mrowMany mroundOf mroundFrom mouts nm mfromHour mtoHour ns mfrom mto msort misFault mdeep mcoded mlines nl nc nF np ntr nb mbestCost nso nsi nit nsh nsf nss nrc mtraced mdealer mnumber mwhose msize misParted), (nw, iA G 1662 fnw), (nsh, iA G 4 fnsh), (nsf, iA G 4 fnsf), (nss, iA G 4 fnss)] (fun r : Int32 => r = ifc (Wi x1 0 3) (ifc (Wi x2 0 6 ∨ Wi x2 10 14) (ifc (fnsh x1.toNatClampNeg = 4) (ifc (x2 - 10 = fnsf x1.toNatClampNeg) (fnss x1.toNatClampNeg) (-13)) (ifc (KOM (fnsh x1.toNatClampNeg) (fnsf x1.toNatClampNeg) kq k8 k9 (shf fnw 32) (shf fnw 1424) < 0) (-11) (ifc (UNl (KOM (fnsh x1.toNatClampNeg) (fnsf x1.toNatClampNeg) kq k8 k9 (shf fnw 32) (shf fnw 1424)).toNatClampNeg x2) (fnsf x1.toNatClampNeg) (-13)))) (-1)) (-1))
set_option maxHeartbeats 4000000 in
set_option maxRecDepth 100000 in
theorem r_taken (l : Launch) (G : GG) (kq : Nat) (k8 : Nat) (k9 : Nat) (h0 : Nat) (x1 : Int32) (x2 : Int32) (nw : Nat) (nk : Nat) (mhasKept : Int32) (nt : Nat) (mtaped : Int32) (nr : Nat) (mrowMany : Int32) (mroundOf : Int32) (mroundFrom : Int32) (mouts : Int32) (nm : Nat) (mfromHour : Int32) (mtoHour : Int32) (ns : Nat) (mfrom : Int32) (mto : Int32) (msort : Int32) (misFault : Int32) (mdeep : Int32) (mcoded : Int32) (mlines : Int32) (nl : Nat) (nc : Nat) (nF : Nat) (np : Nat) (ntr : Nat) (nb : Nat) (mbestCost : Int32) (nso : Nat) (nsi : Nat) (nit : Nat) (nsh : Nat) (nsf : Nat) (nss : Nat) (nrc : Nat) (mtraced : Int32) (mdealer : Int32) (mnumber : Int32) (mwhose : Int32) (msize : Int32) (misParted : Int32) (fnw : Nat → Int32) (fnsh : Nat → Int32) (fnsf : Nat → Int32) (fnss : Nat → Int32) (ekq : fnw 5 = nI kq) (hkq : kq ≤ 12) (ek8 : fnw 8 = nI k8) (hk8 : k8 ≤ 16) (ek9 : fnw 9 = nI k9) (hk9 : k9 ≤ 12) (hN : NI fnw) : K_r_taken l G kq k8 k9 h0 x1 x2 nw nk mhasKept nt mtaped nr mrowMany mroundOf mroundFrom mouts nm mfromHour mtoHour ns mfrom mto msort misFault mdeep mcoded mlines nl nc nF np ntr nb mbestCost nso nsi nit nsh nsf nss nrc mtraced mdealer mnumber mwhose msize misParted fnw fnsh fnsf fnss := by
  refine MP.start (by decide +kernel) (Nat.le_of_ble_eq_true rfl) ?_
  intro p e s m below meth c ls hC hK hP hD hl
  refine absQ (fun Q0 hQ0 => ?_)
  have hl : lv_has ls 4 [(0, .ref h0), (1, .int x1), (2, .int x2)] := hl
  refine Kan8 hC (fun hx hb hr hml hB hown hlocks hnm => ?_)
  refine lv_iload_n hx hb gX12_taken_0.1 rfl (lv_at1 hl) ?_
  refine pS hC hK hl (m_isFour l G x1) si_X12_336 rfl rfl (Nat.le_of_ble_eq_true rfl) rm_4_2_1 ⟨by first | exact Nat.le_of_ble_eq_true rfl | exact Nat.zero_le _, by first | exact Nat.le_of_ble_eq_true rfl | exact Nat.zero_le _⟩ gX12_taken_0.2.1 (Kors (Keqa fun a6037 => ?_) (Keqa fun a6037 => ?_))
  · refine lv_if_eq (tgt := 28) hx hb gX12_taken_0.2.2.1 (by decide) (fun c9 => absurd c9 (by decide)) (fun _ => ?_)
    refine lv_iload_n hx hb gX12_taken_0.2.2.2.1 rfl (lv_at2 hl) ?_
    refine lv_iconst (v := 0) hx hb gX12_taken_0.2.2.2.2.1 (by decide) ?_
    refine lv_bipush (v := 6) hx hb gX12_taken_0.2.2.2.2.2.1 (by decide) ?_
    refine pS hC hK hl (m_within l G x2 0 6) si_X12_84 rfl rfl (Nat.le_of_ble_eq_true rfl) rm_4_1_3 ⟨by first | exact Nat.le_of_ble_eq_true rfl | exact Nat.zero_le _, by first | exact Nat.le_of_ble_eq_true rfl | exact Nat.zero_le _⟩ gX12_taken_0.2.2.2.2.2.2.1 (Kors (Keqa fun a6039 => ?_) (Keqa fun a6039 => ?_))
    · refine lv_if_ne (tgt := 30) hx hb gX12_taken_0.2.2.2.2.2.2.2.1 (by decide) (fun _ => ?_) (fun c9 => absurd c9 (by decide))
      obtain ⟨jt, hjt, rfl⟩ := Wi_nat (N := 3) (by decide) a6037
      refine lv_aload_n hx hb gX12_taken_1.2.2.2.2.2.1 rfl (lv_at0 hl) ?_
      refine gf_X12_72 hC rfl hK hP 0 rfl rfl gX12_taken_1.2.2.2.2.2.2.1 ?_
      refine lv_iload_n hx hb gX12_taken_1.2.2.2.2.2.2.2.1 rfl (lv_at1 hl) ?_
      refine aldN hC hK hP 2 rfl (k := jt) (by omega) (Nat.le_of_ble_eq_true rfl) (v := fnsh jt) rfl gX12_taken_1.2.2.2.2.2.2.2.2.1 ?_
      refine lv_iconst (v := 4) hx hb gX12_taken_1.2.2.2.2.2.2.2.2.2 (by decide) ?_
      refine lv_icmp_ne (tgt := 65) hx hb gX12_taken_2.1 (by decide) (fun c_37_6040 => ?_) (fun c_37_6040 => ?_)
      · refine lv_aload_n hx hb gX12_taken_3.2.2.2.2.2.2.1 rfl (lv_at0 hl) ?_
        refine lv_iload_n hx hb gX12_taken_3.2.2.2.2.2.2.2.1 rfl (lv_at1 hl) ?_
        refine pV hC hK hl hP hD (m_kindOnX l G kq k8 k9 h0 jt nw nk mhasKept nt mtaped nr mrowMany mroundOf mroundFrom mouts nm mfromHour mtoHour ns mfrom mto msort misFault mdeep mcoded mlines nl nc nF np ntr nb mbestCost nso nsi nit nsh nsf nss nrc mtraced mdealer mnumber mwhose msize misParted fnw fnsh fnsf (by omega) (ekq) (hkq) (ek8) (hk8) (ek9) (hk9) (hN)) si_X12_345 [0, 1, 2, 3] sm_0_1_2_3 fm_0_1_2_3 nd_0_1_2_3 rfl rfl rfl rfl rfl (Nat.le_of_ble_eq_true rfl) rm_4_3_4 ⟨by first | exact Nat.le_of_ble_eq_true rfl | exact Nat.zero_le _, by first | exact Nat.le_of_ble_eq_true rfl | exact Nat.zero_le _⟩ gX12_taken_3.2.2.2.2.2.2.2.2.1 (Kors (Keqa fun a6042 => ?_) (Kors (Keqa fun a6042 => ?_) (Kors (Keqa fun a6042 => ?_) (Kors (Keqa fun a6042 => ?_) (Kors (Keqa fun a6042 => ?_) (Kors (Keqa fun a6042 => ?_) (Keqa fun a6042 => ?_)))))))
        · refine lv_istore_n (lv' := [(3, .int (-1)), (0, .ref h0), (1, .int (nI jt)), (2, .int x2)]) hx hb gX12_taken_3.2.2.2.2.2.2.2.2.2 rfl hl (by decide) rfl (fun ls hl => ?_)
          refine lv_iload_n hx hb gX12_taken_4.1 rfl (lv_at0 hl) ?_
          refine lv_if_ge (tgt := 78) hx hb gX12_taken_4.2.1 (by decide) (fun c9 => absurd c9 (by decide)) (fun _ => ?_)
          refine lv_bipush (v := (-11)) hx hb gX12_taken_4.2.2.1 (by decide) ?_
          refine toQ hQ0 ?_
          exact RP (v := (-11)) hC ((by first | rfl | (simp only [nI_clamp (n := jt) (by omega), ifc_t ekq, ifc_t hkq, ifc_t ek8, ifc_t hk8, ifc_t ek9, ifc_t hk9, ifc_t hN, ifc_t a6037, ifc_t a6039, ifc_f c_37_6040, ifc_t (q := Wi x2 0 6 ∨ Wi x2 10 14) (Or.inl a6039), a6042, ifc_t (q := (-1 : Int32) < 0) (by decide)]; done) | (simp only [nI_clamp (n := jt) (by omega), ifc_t ekq, ifc_t hkq, ifc_t ek8, ifc_t hk8, ifc_t ek9, ifc_t hk9, ifc_t hN, ifc_t a6037, ifc_t a6039, ifc_f c_37_6040, ifc_t (q := Wi x2 0 6 ∨ Wi x2 10 14) (Or.inl a6039), a6042, ifc_t (q := (-1 : Int32) < 0) (by decide)]; rfl))) rfl gX12_taken_4.2.2.2.1
        · refine lv_istore_n (lv' := [(3, .int 1), (0, .ref h0), (1, .int (nI jt)), (2, .int x2)]) hx hb gX12_taken_3.2.2.2.2.2.2.2.2.2 rfl hl (by decide) rfl (fun ls hl => ?_)
          refine lv_iload_n hx hb gX12_taken_4.1 rfl (lv_at0 hl) ?_
          refine lv_if_ge (tgt := 78) hx hb gX12_taken_4.2.1 (by decide) (fun _ => ?_) (fun c9 => absurd (by decide) c9)
          refine lv_iload_n hx hb gX12_taken_4.2.2.2.2.1 rfl (lv_at0 hl) ?_
          refine lv_if_lt (tgt := 95) hx hb gX12_taken_4.2.2.2.2.2.1 (by decide) (fun c9 => absurd c9 (by decide)) (fun _ => ?_)
          refine lv_iload_n hx hb gX12_taken_4.2.2.2.2.2.2.1 rfl (lv_at0 hl) ?_
          refine lv_iload_n hx hb gX12_taken_4.2.2.2.2.2.2.2.1 rfl (lv_at3 hl) ?_
          refine lv_icmp_eq (tgt := 95) hx hb gX12_taken_4.2.2.2.2.2.2.2.2.1 (by decide) (fun c_84_6043 => ?_) (fun c_84_6043 => ?_)
          · refine lv_iload_n hx hb gX12_taken_5.2.2.2.1 rfl (lv_at0 hl) ?_
            refine lv_iload_n hx hb gX12_taken_5.2.2.2.2.1 rfl (lv_at3 hl) ?_
            refine lv_icmp_ne (tgt := 109) hx hb gX12_taken_5.2.2.2.2.2.1 (by decide) (fun c9 => absurd (c_84_6043) c9) (fun _ => ?_)
            refine lv_aload_n hx hb gX12_taken_5.2.2.2.2.2.2.1 rfl (lv_at1 hl) ?_
            refine gf_X12_75 hC rfl hK hP 0 rfl rfl gX12_taken_5.2.2.2.2.2.2.2.1 ?_
            refine lv_iload_n hx hb gX12_taken_5.2.2.2.2.2.2.2.2.1 rfl (lv_at2 hl) ?_
            refine aldN hC hK hP 3 rfl (k := jt) (by omega) (Nat.le_of_ble_eq_true rfl) (v := fnsf jt) rfl gX12_taken_5.2.2.2.2.2.2.2.2.2 ?_
            refine lv_goto (tgt := 111) hx hb gX12_taken_6.1 (by decide) ?_
            refine toQ hQ0 ?_
            exact RP (v := fnsf jt) hC ((by first | rfl | (simp only [nI_clamp (n := jt) (by omega), ifc_t ekq, ifc_t hkq, ifc_t ek8, ifc_t hk8, ifc_t ek9, ifc_t hk9, ifc_t hN, ifc_t a6037, ifc_t a6039, ifc_f c_37_6040, ifc_t c_84_6043, ifc_t (q := Wi x2 0 6 ∨ Wi x2 10 14) (Or.inl a6039), a6042, ifc_f (q := (1 : Int32) < 0) (by decide), ifc_t (q := UNl (1 : Int32).toNatClampNeg x2) (show UNl 1 x2 from Or.inl (c_84_6043.symm))]; done) | (simp only [nI_clamp (n := jt) (by omega), ifc_t ekq, ifc_t hkq, ifc_t ek8, ifc_t hk8, ifc_t ek9, ifc_t hk9, ifc_t hN, ifc_t a6037, ifc_t a6039, ifc_f c_37_6040, ifc_t c_84_6043, ifc_t (q := Wi x2 0 6 ∨ Wi x2 10 14) (Or.inl a6039), a6042, ifc_f (q := (1 : Int32) < 0) (by decide), ifc_t (q := UNl (1 : Int32).toNatClampNeg x2) (show UNl 1 x2 from Or.inl (c_84_6043.symm))]; rfl))) rfl gX12_taken_6.2.2
          · refine lv_iload_n hx hb gX12_taken_4.2.2.2.2.2.2.2.2.2 rfl (lv_at0 hl) ?_
            refine pS hC hK hl (m_above1 l G) si_X12_348 rfl rfl (Nat.le_of_ble_eq_true rfl) rm_4_1_1 ⟨by first | exact Nat.le_of_ble_eq_true rfl | exact Nat.zero_le _, by first | exact Nat.le_of_ble_eq_true rfl | exact Nat.zero_le _⟩ gX12_taken_5.1 (Keqr ?_)
            refine lv_istore_n (lv' := [(3, .int 0), (0, .ref h0), (1, .int (nI jt)), (2, .int x2)]) hx hb gX12_taken_5.2.1 rfl hl (by decide) rfl (fun ls hl => ?_)
            refine lv_goto (tgt := 78) hx hb gX12_taken_5.2.2.1 (by decide) ?_
            refine lv_iload_n hx hb gX12_taken_4.2.2.2.2.1 rfl (lv_at0 hl) ?_
            refine lv_if_lt (tgt := 95) hx hb gX12_taken_4.2.2.2.2.2.1 (by decide) (fun c9 => absurd c9 (by decide)) (fun _ => ?_)
            refine lv_iload_n hx hb gX12_taken_4.2.2.2.2.2.2.1 rfl (lv_at0 hl) ?_
            refine lv_iload_n hx hb gX12_taken_4.2.2.2.2.2.2.2.1 rfl (lv_at3 hl) ?_
            refine lv_icmp_eq (tgt := 95) hx hb gX12_taken_4.2.2.2.2.2.2.2.2.1 (by decide) (fun c_84_6046 => ?_) (fun c_84_6046 => ?_)
            · refine lv_iload_n hx hb gX12_taken_5.2.2.2.1 rfl (lv_at0 hl) ?_
              refine lv_iload_n hx hb gX12_taken_5.2.2.2.2.1 rfl (lv_at3 hl) ?_
              refine lv_icmp_ne (tgt := 109) hx hb gX12_taken_5.2.2.2.2.2.1 (by decide) (fun c9 => absurd (c_84_6046) c9) (fun _ => ?_)
              refine lv_aload_n hx hb gX12_taken_5.2.2.2.2.2.2.1 rfl (lv_at1 hl) ?_
              refine gf_X12_75 hC rfl hK hP 0 rfl rfl gX12_taken_5.2.2.2.2.2.2.2.1 ?_
              refine lv_iload_n hx hb gX12_taken_5.2.2.2.2.2.2.2.2.1 rfl (lv_at2 hl) ?_
              refine aldN hC hK hP 3 rfl (k := jt) (by omega) (Nat.le_of_ble_eq_true rfl) (v := fnsf jt) rfl gX12_taken_5.2.2.2.2.2.2.2.2.2 ?_
              refine lv_goto (tgt := 111) hx hb gX12_taken_6.1 (by decide) ?_
              refine toQ hQ0 ?_
              exact RP (v := fnsf jt) hC ((by first | rfl | (simp only [nI_clamp (n := jt) (by omega), ifc_t ekq, ifc_t hkq, ifc_t ek8, ifc_t hk8, ifc_t ek9, ifc_t hk9, ifc_t hN, ifc_t a6037, ifc_t a6039, ifc_f c_37_6040, ifc_f c_84_6043, ifc_t c_84_6046, ifc_t (q := Wi x2 0 6 ∨ Wi x2 10 14) (Or.inl a6039), a6042, ifc_f (q := (1 : Int32) < 0) (by decide), ifc_t (q := UNl (1 : Int32).toNatClampNeg x2) (show UNl 1 x2 from Or.inr (c_84_6046.symm))]; done) | (simp only [nI_clamp (n := jt) (by omega), ifc_t ekq, ifc_t hkq, ifc_t ek8, ifc_t hk8, ifc_t ek9, ifc_t hk9, ifc_t hN, ifc_t a6037, ifc_t a6039, ifc_f c_37_6040, ifc_f c_84_6043, ifc_t c_84_6046, ifc_t (q := Wi x2 0 6 ∨ Wi x2 10 14) (Or.inl a6039), a6042, ifc_f (q := (1 : Int32) < 0) (by decide), ifc_t (q := UNl (1 : Int32).toNatClampNeg x2) (show UNl 1 x2 from Or.inr (c_84_6046.symm))]; rfl))) rfl gX12_taken_6.2.2
            · refine lv_iload_n hx hb gX12_taken_4.2.2.2.2.2.2.2.2.2 rfl (lv_at0 hl) ?_
              refine pS hC hK hl (m_above0 l G) si_X12_348 rfl rfl (Nat.le_of_ble_eq_true rfl) rm_4_1_1 ⟨by first | exact Nat.le_of_ble_eq_true rfl | exact Nat.zero_le _, by first | exact Nat.le_of_ble_eq_true rfl | exact Nat.zero_le _⟩ gX12_taken_5.1 (Keqr ?_)
              refine lv_istore_n (lv' := [(3, .int (-1)), (0, .ref h0), (1, .int (nI jt)), (2, .int x2)]) hx hb gX12_taken_5.2.1 rfl hl (by decide) rfl (fun ls hl => ?_)
              refine lv_goto (tgt := 78) hx hb gX12_taken_5.2.2.1 (by decide) ?_
              refine lv_iload_n hx hb gX12_taken_4.2.2.2.2.1 rfl (lv_at0 hl) ?_
              refine lv_if_lt (tgt := 95) hx hb gX12_taken_4.2.2.2.2.2.1 (by decide) (fun _ => ?_) (fun c9 => absurd (by decide) c9)
              refine lv_iload_n hx hb gX12_taken_5.2.2.2.1 rfl (lv_at0 hl) ?_
              refine lv_iload_n hx hb gX12_taken_5.2.2.2.2.1 rfl (lv_at3 hl) ?_
              refine lv_icmp_ne (tgt := 109) hx hb gX12_taken_5.2.2.2.2.2.1 (by decide) (fun c_97_6049 => ?_) (fun c_97_6049 => ?_)
              · refine lv_bipush (v := (-13)) hx hb gX12_taken_6.2.1 (by decide) ?_
                refine toQ hQ0 ?_
                exact RP (v := (-13)) hC ((by first | rfl | (simp only [nI_clamp (n := jt) (by omega), ifc_t ekq, ifc_t hkq, ifc_t ek8, ifc_t hk8, ifc_t ek9, ifc_t hk9, ifc_t hN, ifc_t a6037, ifc_t a6039, ifc_f c_37_6040, ifc_f c_84_6043, ifc_f c_84_6046, ifc_f c_97_6049, ifc_t (q := Wi x2 0 6 ∨ Wi x2 10 14) (Or.inl a6039), a6042, ifc_f (q := (1 : Int32) < 0) (by decide), ifc_f (q := UNl (1 : Int32).toNatClampNeg x2) (fun h9 => (show False from by have h7 : x2 = 1 ∨ x2 = 0 := h9; rcases h7 with h8 | h8 <;> (first | exact c_84_6043 h8.symm | exact c_84_6046 h8.symm)))]; done) | (simp only [nI_clamp (n := jt) (by omega), ifc_t ekq, ifc_t hkq, ifc_t ek8, ifc_t hk8, ifc_t ek9, ifc_t hk9, ifc_t hN, ifc_t a6037, ifc_t a6039, ifc_f c_37_6040, ifc_f c_84_6043, ifc_f c_84_6046, ifc_f c_97_6049, ifc_t (q := Wi x2 0 6 ∨ Wi x2 10 14) (Or.inl a6039), a6042, ifc_f (q := (1 : Int32) < 0) (by decide), ifc_f (q := UNl (1 : Int32).toNatClampNeg x2) (fun h9 => (show False from by have h7 : x2 = 1 ∨ x2 = 0 := h9; rcases h7 with h8 | h8 <;> (first | exact c_84_6043 h8.symm | exact c_84_6046 h8.symm)))]; rfl))) rfl gX12_taken_6.2.2
              · refine lv_aload_n hx hb gX12_taken_5.2.2.2.2.2.2.1 rfl (lv_at1 hl) ?_
                refine gf_X12_75 hC rfl hK hP 0 rfl rfl gX12_taken_5.2.2.2.2.2.2.2.1 ?_
                refine lv_iload_n hx hb gX12_taken_5.2.2.2.2.2.2.2.2.1 rfl (lv_at2 hl) ?_
                refine aldN hC hK hP 3 rfl (k := jt) (by omega) (Nat.le_of_ble_eq_true rfl) (v := fnsf jt) rfl gX12_taken_5.2.2.2.2.2.2.2.2.2 ?_
                refine lv_goto (tgt := 111) hx hb gX12_taken_6.1 (by decide) ?_
                refine toQ hQ0 ?_
                exact RP (v := fnsf jt) hC ((absurd a6039 (by rw [← c_97_6049]; unfold Wi; decide))) rfl gX12_taken_6.2.2
        · refine lv_istore_n (lv' := [(3, .int 2), (0, .ref h0), (1, .int (nI jt)), (2, .int x2)]) hx hb gX12_taken_3.2.2.2.2.2.2.2.2.2 rfl hl (by decide) rfl (fun ls hl => ?_)
          refine lv_iload_n hx hb gX12_taken_4.1 rfl (lv_at0 hl) ?_
          refine lv_if_ge (tgt := 78) hx hb gX12_taken_4.2.1 (by decide) (fun _ => ?_) (fun c9 => absurd (by decide) c9)
          refine lv_iload_n hx hb gX12_taken_4.2.2.2.2.1 rfl (lv_at0 hl) ?_
          refine lv_if_lt (tgt := 95) hx hb gX12_taken_4.2.2.2.2.2.1 (by decide) (fun c9 => absurd c9 (by decide)) (fun _ => ?_)
          refine lv_iload_n hx hb gX12_taken_4.2.2.2.2.2.2.1 rfl (lv_at0 hl) ?_
          refine lv_iload_n hx hb gX12_taken_4.2.2.2.2.2.2.2.1 rfl (lv_at3 hl) ?_
          refine lv_icmp_eq (tgt := 95) hx hb gX12_taken_4.2.2.2.2.2.2.2.2.1 (by decide) (fun c_84_6050 => ?_) (fun c_84_6050 => ?_)
          · refine lv_iload_n hx hb gX12_taken_5.2.2.2.1 rfl (lv_at0 hl) ?_
            refine lv_iload_n hx hb gX12_taken_5.2.2.2.2.1 rfl (lv_at3 hl) ?_
            refine lv_icmp_ne (tgt := 109) hx hb gX12_taken_5.2.2.2.2.2.1 (by decide) (fun c9 => absurd (c_84_6050) c9) (fun _ => ?_)
            refine lv_aload_n hx hb gX12_taken_5.2.2.2.2.2.2.1 rfl (lv_at1 hl) ?_
            refine gf_X12_75 hC rfl hK hP 0 rfl rfl gX12_taken_5.2.2.2.2.2.2.2.1 ?_
            refine lv_iload_n hx hb gX12_taken_5.2.2.2.2.2.2.2.2.1 rfl (lv_at2 hl) ?_
            refine aldN hC hK hP 3 rfl (k := jt) (by omega) (Nat.le_of_ble_eq_true rfl) (v := fnsf jt) rfl gX12_taken_5.2.2.2.2.2.2.2.2.2 ?_
            refine lv_goto (tgt := 111) hx hb gX12_taken_6.1 (by decide) ?_
            refine toQ hQ0 ?_
            exact RP (v := fnsf jt) hC ((by first | rfl | (simp only [nI_clamp (n := jt) (by omega), ifc_t ekq, ifc_t hkq, ifc_t ek8, ifc_t hk8, ifc_t ek9, ifc_t hk9, ifc_t hN, ifc_t a6037, ifc_t a6039, ifc_f c_37_6040, ifc_t c_84_6050, ifc_t (q := Wi x2 0 6 ∨ Wi x2 10 14) (Or.inl a6039), a6042, ifc_f (q := (2 : Int32) < 0) (by decide), ifc_t (q := UNl (2 : Int32).toNatClampNeg x2) (show UNl 2 x2 from Or.inl (c_84_6050.symm))]; done) | (simp only [nI_clamp (n := jt) (by omega), ifc_t ekq, ifc_t hkq, ifc_t ek8, ifc_t hk8, ifc_t ek9, ifc_t hk9, ifc_t hN, ifc_t a6037, ifc_t a6039, ifc_f c_37_6040, ifc_t c_84_6050, ifc_t (q := Wi x2 0 6 ∨ Wi x2 10 14) (Or.inl a6039), a6042, ifc_f (q := (2 : Int32) < 0) (by decide), ifc_t (q := UNl (2 : Int32).toNatClampNeg x2) (show UNl 2 x2 from Or.inl (c_84_6050.symm))]; rfl))) rfl gX12_taken_6.2.2
          · refine lv_iload_n hx hb gX12_taken_4.2.2.2.2.2.2.2.2.2 rfl (lv_at0 hl) ?_
            refine pS hC hK hl (m_above2 l G) si_X12_348 rfl rfl (Nat.le_of_ble_eq_true rfl) rm_4_1_1 ⟨by first | exact Nat.le_of_ble_eq_true rfl | exact Nat.zero_le _, by first | exact Nat.le_of_ble_eq_true rfl | exact Nat.zero_le _⟩ gX12_taken_5.1 (Keqr ?_)
            refine lv_istore_n (lv' := [(3, .int 0), (0, .ref h0), (1, .int (nI jt)), (2, .int x2)]) hx hb gX12_taken_5.2.1 rfl hl (by decide) rfl (fun ls hl => ?_)
            refine lv_goto (tgt := 78) hx hb gX12_taken_5.2.2.1 (by decide) ?_
            refine lv_iload_n hx hb gX12_taken_4.2.2.2.2.1 rfl (lv_at0 hl) ?_
            refine lv_if_lt (tgt := 95) hx hb gX12_taken_4.2.2.2.2.2.1 (by decide) (fun c9 => absurd c9 (by decide)) (fun _ => ?_)
            refine lv_iload_n hx hb gX12_taken_4.2.2.2.2.2.2.1 rfl (lv_at0 hl) ?_
            refine lv_iload_n hx hb gX12_taken_4.2.2.2.2.2.2.2.1 rfl (lv_at3 hl) ?_
            refine lv_icmp_eq (tgt := 95) hx hb gX12_taken_4.2.2.2.2.2.2.2.2.1 (by decide) (fun c_84_6053 => ?_) (fun c_84_6053 => ?_)
            · refine lv_iload_n hx hb gX12_taken_5.2.2.2.1 rfl (lv_at0 hl) ?_
              refine lv_iload_n hx hb gX12_taken_5.2.2.2.2.1 rfl (lv_at3 hl) ?_
              refine lv_icmp_ne (tgt := 109) hx hb gX12_taken_5.2.2.2.2.2.1 (by decide) (fun c9 => absurd (c_84_6053) c9) (fun _ => ?_)
              refine lv_aload_n hx hb gX12_taken_5.2.2.2.2.2.2.1 rfl (lv_at1 hl) ?_
              refine gf_X12_75 hC rfl hK hP 0 rfl rfl gX12_taken_5.2.2.2.2.2.2.2.1 ?_
              refine lv_iload_n hx hb gX12_taken_5.2.2.2.2.2.2.2.2.1 rfl (lv_at2 hl) ?_
              refine aldN hC hK hP 3 rfl (k := jt) (by omega) (Nat.le_of_ble_eq_true rfl) (v := fnsf jt) rfl gX12_taken_5.2.2.2.2.2.2.2.2.2 ?_
              refine lv_goto (tgt := 111) hx hb gX12_taken_6.1 (by decide) ?_
              refine toQ hQ0 ?_
              exact RP (v := fnsf jt) hC ((by first | rfl | (simp only [nI_clamp (n := jt) (by omega), ifc_t ekq, ifc_t hkq, ifc_t ek8, ifc_t hk8, ifc_t ek9, ifc_t hk9, ifc_t hN, ifc_t a6037, ifc_t a6039, ifc_f c_37_6040, ifc_f c_84_6050, ifc_t c_84_6053, ifc_t (q := Wi x2 0 6 ∨ Wi x2 10 14) (Or.inl a6039), a6042, ifc_f (q := (2 : Int32) < 0) (by decide), ifc_t (q := UNl (2 : Int32).toNatClampNeg x2) (show UNl 2 x2 from Or.inr (c_84_6053.symm))]; done) | (simp only [nI_clamp (n := jt) (by omega), ifc_t ekq, ifc_t hkq, ifc_t ek8, ifc_t hk8, ifc_t ek9, ifc_t hk9, ifc_t hN, ifc_t a6037, ifc_t a6039, ifc_f c_37_6040, ifc_f c_84_6050, ifc_t c_84_6053, ifc_t (q := Wi x2 0 6 ∨ Wi x2 10 14) (Or.inl a6039), a6042, ifc_f (q := (2 : Int32) < 0) (by decide), ifc_t (q := UNl (2 : Int32).toNatClampNeg x2) (show UNl 2 x2 from Or.inr (c_84_6053.symm))]; rfl))) rfl gX12_taken_6.2.2
            · refine lv_iload_n hx hb gX12_taken_4.2.2.2.2.2.2.2.2.2 rfl (lv_at0 hl) ?_
              refine pS hC hK hl (m_above0 l G) si_X12_348 rfl rfl (Nat.le_of_ble_eq_true rfl) rm_4_1_1 ⟨by first | exact Nat.le_of_ble_eq_true rfl | exact Nat.zero_le _, by first | exact Nat.le_of_ble_eq_true rfl | exact Nat.zero_le _⟩ gX12_taken_5.1 (Keqr ?_)
              refine lv_istore_n (lv' := [(3, .int (-1)), (0, .ref h0), (1, .int (nI jt)), (2, .int x2)]) hx hb gX12_taken_5.2.1 rfl hl (by decide) rfl (fun ls hl => ?_)
              refine lv_goto (tgt := 78) hx hb gX12_taken_5.2.2.1 (by decide) ?_
              refine lv_iload_n hx hb gX12_taken_4.2.2.2.2.1 rfl (lv_at0 hl) ?_
              refine lv_if_lt (tgt := 95) hx hb gX12_taken_4.2.2.2.2.2.1 (by decide) (fun _ => ?_) (fun c9 => absurd (by decide) c9)
              refine lv_iload_n hx hb gX12_taken_5.2.2.2.1 rfl (lv_at0 hl) ?_
              refine lv_iload_n hx hb gX12_taken_5.2.2.2.2.1 rfl (lv_at3 hl) ?_
              refine lv_icmp_ne (tgt := 109) hx hb gX12_taken_5.2.2.2.2.2.1 (by decide) (fun c_97_6056 => ?_) (fun c_97_6056 => ?_)
              · refine lv_bipush (v := (-13)) hx hb gX12_taken_6.2.1 (by decide) ?_
                refine toQ hQ0 ?_
                exact RP (v := (-13)) hC ((by first | rfl | (simp only [nI_clamp (n := jt) (by omega), ifc_t ekq, ifc_t hkq, ifc_t ek8, ifc_t hk8, ifc_t ek9, ifc_t hk9, ifc_t hN, ifc_t a6037, ifc_t a6039, ifc_f c_37_6040, ifc_f c_84_6050, ifc_f c_84_6053, ifc_f c_97_6056, ifc_t (q := Wi x2 0 6 ∨ Wi x2 10 14) (Or.inl a6039), a6042, ifc_f (q := (2 : Int32) < 0) (by decide), ifc_f (q := UNl (2 : Int32).toNatClampNeg x2) (fun h9 => (show False from by have h7 : x2 = 2 ∨ x2 = 0 := h9; rcases h7 with h8 | h8 <;> (first | exact c_84_6050 h8.symm | exact c_84_6053 h8.symm)))]; done) | (simp only [nI_clamp (n := jt) (by omega), ifc_t ekq, ifc_t hkq, ifc_t ek8, ifc_t hk8, ifc_t ek9, ifc_t hk9, ifc_t hN, ifc_t a6037, ifc_t a6039, ifc_f c_37_6040, ifc_f c_84_6050, ifc_f c_84_6053, ifc_f c_97_6056, ifc_t (q := Wi x2 0 6 ∨ Wi x2 10 14) (Or.inl a6039), a6042, ifc_f (q := (2 : Int32) < 0) (by decide), ifc_f (q := UNl (2 : Int32).toNatClampNeg x2) (fun h9 => (show False from by have h7 : x2 = 2 ∨ x2 = 0 := h9; rcases h7 with h8 | h8 <;> (first | exact c_84_6050 h8.symm | exact c_84_6053 h8.symm)))]; rfl))) rfl gX12_taken_6.2.2
              · refine lv_aload_n hx hb gX12_taken_5.2.2.2.2.2.2.1 rfl (lv_at1 hl) ?_
                refine gf_X12_75 hC rfl hK hP 0 rfl rfl gX12_taken_5.2.2.2.2.2.2.2.1 ?_
                refine lv_iload_n hx hb gX12_taken_5.2.2.2.2.2.2.2.2.1 rfl (lv_at2 hl) ?_
                refine aldN hC hK hP 3 rfl (k := jt) (by omega) (Nat.le_of_ble_eq_true rfl) (v := fnsf jt) rfl gX12_taken_5.2.2.2.2.2.2.2.2.2 ?_
                refine lv_goto (tgt := 111) hx hb gX12_taken_6.1 (by decide) ?_
                refine toQ hQ0 ?_
                exact RP (v := fnsf jt) hC ((absurd a6039 (by rw [← c_97_6056]; unfold Wi; decide))) rfl gX12_taken_6.2.2
        · refine lv_istore_n (lv' := [(3, .int 3), (0, .ref h0), (1, .int (nI jt)), (2, .int x2)]) hx hb gX12_taken_3.2.2.2.2.2.2.2.2.2 rfl hl (by decide) rfl (fun ls hl => ?_)
          refine lv_iload_n hx hb gX12_taken_4.1 rfl (lv_at0 hl) ?_
          refine lv_if_ge (tgt := 78) hx hb gX12_taken_4.2.1 (by decide) (fun _ => ?_) (fun c9 => absurd (by decide) c9)
          refine lv_iload_n hx hb gX12_taken_4.2.2.2.2.1 rfl (lv_at0 hl) ?_
          refine lv_if_lt (tgt := 95) hx hb gX12_taken_4.2.2.2.2.2.1 (by decide) (fun c9 => absurd c9 (by decide)) (fun _ => ?_)
          refine lv_iload_n hx hb gX12_taken_4.2.2.2.2.2.2.1 rfl (lv_at0 hl) ?_
          refine lv_iload_n hx hb gX12_taken_4.2.2.2.2.2.2.2.1 rfl (lv_at3 hl) ?_
          refine lv_icmp_eq (tgt := 95) hx hb gX12_taken_4.2.2.2.2.2.2.2.2.1 (by decide) (fun c_84_6057 => ?_) (fun c_84_6057 => ?_)
          · refine lv_iload_n hx hb gX12_taken_5.2.2.2.1 rfl (lv_at0 hl) ?_
            refine lv_iload_n hx hb gX12_taken_5.2.2.2.2.1 rfl (lv_at3 hl) ?_
            refine lv_icmp_ne (tgt := 109) hx hb gX12_taken_5.2.2.2.2.2.1 (by decide) (fun c9 => absurd (c_84_6057) c9) (fun _ => ?_)
            refine lv_aload_n hx hb gX12_taken_5.2.2.2.2.2.2.1 rfl (lv_at1 hl) ?_
            refine gf_X12_75 hC rfl hK hP 0 rfl rfl gX12_taken_5.2.2.2.2.2.2.2.1 ?_
            refine lv_iload_n hx hb gX12_taken_5.2.2.2.2.2.2.2.2.1 rfl (lv_at2 hl) ?_
            refine aldN hC hK hP 3 rfl (k := jt) (by omega) (Nat.le_of_ble_eq_true rfl) (v := fnsf jt) rfl gX12_taken_5.2.2.2.2.2.2.2.2.2 ?_
            refine lv_goto (tgt := 111) hx hb gX12_taken_6.1 (by decide) ?_
            refine toQ hQ0 ?_
            exact RP (v := fnsf jt) hC ((by first | rfl | (simp only [nI_clamp (n := jt) (by omega), ifc_t ekq, ifc_t hkq, ifc_t ek8, ifc_t hk8, ifc_t ek9, ifc_t hk9, ifc_t hN, ifc_t a6037, ifc_t a6039, ifc_f c_37_6040, ifc_t c_84_6057, ifc_t (q := Wi x2 0 6 ∨ Wi x2 10 14) (Or.inl a6039), a6042, ifc_f (q := (3 : Int32) < 0) (by decide), ifc_t (q := UNl (3 : Int32).toNatClampNeg x2) (show UNl 3 x2 from Or.inl (c_84_6057.symm))]; done) | (simp only [nI_clamp (n := jt) (by omega), ifc_t ekq, ifc_t hkq, ifc_t ek8, ifc_t hk8, ifc_t ek9, ifc_t hk9, ifc_t hN, ifc_t a6037, ifc_t a6039, ifc_f c_37_6040, ifc_t c_84_6057, ifc_t (q := Wi x2 0 6 ∨ Wi x2 10 14) (Or.inl a6039), a6042, ifc_f (q := (3 : Int32) < 0) (by decide), ifc_t (q := UNl (3 : Int32).toNatClampNeg x2) (show UNl 3 x2 from Or.inl (c_84_6057.symm))]; rfl))) rfl gX12_taken_6.2.2
          · refine lv_iload_n hx hb gX12_taken_4.2.2.2.2.2.2.2.2.2 rfl (lv_at0 hl) ?_
            refine pS hC hK hl (m_above3 l G) si_X12_348 rfl rfl (Nat.le_of_ble_eq_true rfl) rm_4_1_1 ⟨by first | exact Nat.le_of_ble_eq_true rfl | exact Nat.zero_le _, by first | exact Nat.le_of_ble_eq_true rfl | exact Nat.zero_le _⟩ gX12_taken_5.1 (Keqr ?_)
            refine lv_istore_n (lv' := [(3, .int 1), (0, .ref h0), (1, .int (nI jt)), (2, .int x2)]) hx hb gX12_taken_5.2.1 rfl hl (by decide) rfl (fun ls hl => ?_)
            refine lv_goto (tgt := 78) hx hb gX12_taken_5.2.2.1 (by decide) ?_
            refine lv_iload_n hx hb gX12_taken_4.2.2.2.2.1 rfl (lv_at0 hl) ?_
            refine lv_if_lt (tgt := 95) hx hb gX12_taken_4.2.2.2.2.2.1 (by decide) (fun c9 => absurd c9 (by decide)) (fun _ => ?_)
            refine lv_iload_n hx hb gX12_taken_4.2.2.2.2.2.2.1 rfl (lv_at0 hl) ?_
            refine lv_iload_n hx hb gX12_taken_4.2.2.2.2.2.2.2.1 rfl (lv_at3 hl) ?_
            refine lv_icmp_eq (tgt := 95) hx hb gX12_taken_4.2.2.2.2.2.2.2.2.1 (by decide) (fun c_84_6060 => ?_) (fun c_84_6060 => ?_)
            · refine lv_iload_n hx hb gX12_taken_5.2.2.2.1 rfl (lv_at0 hl) ?_
              refine lv_iload_n hx hb gX12_taken_5.2.2.2.2.1 rfl (lv_at3 hl) ?_
              refine lv_icmp_ne (tgt := 109) hx hb gX12_taken_5.2.2.2.2.2.1 (by decide) (fun c9 => absurd (c_84_6060) c9) (fun _ => ?_)
              refine lv_aload_n hx hb gX12_taken_5.2.2.2.2.2.2.1 rfl (lv_at1 hl) ?_
              refine gf_X12_75 hC rfl hK hP 0 rfl rfl gX12_taken_5.2.2.2.2.2.2.2.1 ?_
              refine lv_iload_n hx hb gX12_taken_5.2.2.2.2.2.2.2.2.1 rfl (lv_at2 hl) ?_
              refine aldN hC hK hP 3 rfl (k := jt) (by omega) (Nat.le_of_ble_eq_true rfl) (v := fnsf jt) rfl gX12_taken_5.2.2.2.2.2.2.2.2.2 ?_
              refine lv_goto (tgt := 111) hx hb gX12_taken_6.1 (by decide) ?_
              refine toQ hQ0 ?_
              exact RP (v := fnsf jt) hC ((by first | rfl | (simp only [nI_clamp (n := jt) (by omega), ifc_t ekq, ifc_t hkq, ifc_t ek8, ifc_t hk8, ifc_t ek9, ifc_t hk9, ifc_t hN, ifc_t a6037, ifc_t a6039, ifc_f c_37_6040, ifc_f c_84_6057, ifc_t c_84_6060, ifc_t (q := Wi x2 0 6 ∨ Wi x2 10 14) (Or.inl a6039), a6042, ifc_f (q := (3 : Int32) < 0) (by decide), ifc_t (q := UNl (3 : Int32).toNatClampNeg x2) (show UNl 3 x2 from Or.inr (Or.inl (c_84_6060.symm)))]; done) | (simp only [nI_clamp (n := jt) (by omega), ifc_t ekq, ifc_t hkq, ifc_t ek8, ifc_t hk8, ifc_t ek9, ifc_t hk9, ifc_t hN, ifc_t a6037, ifc_t a6039, ifc_f c_37_6040, ifc_f c_84_6057, ifc_t c_84_6060, ifc_t (q := Wi x2 0 6 ∨ Wi x2 10 14) (Or.inl a6039), a6042, ifc_f (q := (3 : Int32) < 0) (by decide), ifc_t (q := UNl (3 : Int32).toNatClampNeg x2) (show UNl 3 x2 from Or.inr (Or.inl (c_84_6060.symm)))]; rfl))) rfl gX12_taken_6.2.2
            · refine lv_iload_n hx hb gX12_taken_4.2.2.2.2.2.2.2.2.2 rfl (lv_at0 hl) ?_
              refine pS hC hK hl (m_above1 l G) si_X12_348 rfl rfl (Nat.le_of_ble_eq_true rfl) rm_4_1_1 ⟨by first | exact Nat.le_of_ble_eq_true rfl | exact Nat.zero_le _, by first | exact Nat.le_of_ble_eq_true rfl | exact Nat.zero_le _⟩ gX12_taken_5.1 (Keqr ?_)
              refine lv_istore_n (lv' := [(3, .int 0), (0, .ref h0), (1, .int (nI jt)), (2, .int x2)]) hx hb gX12_taken_5.2.1 rfl hl (by decide) rfl (fun ls hl => ?_)
              refine lv_goto (tgt := 78) hx hb gX12_taken_5.2.2.1 (by decide) ?_
              refine lv_iload_n hx hb gX12_taken_4.2.2.2.2.1 rfl (lv_at0 hl) ?_
              refine lv_if_lt (tgt := 95) hx hb gX12_taken_4.2.2.2.2.2.1 (by decide) (fun c9 => absurd c9 (by decide)) (fun _ => ?_)
              refine lv_iload_n hx hb gX12_taken_4.2.2.2.2.2.2.1 rfl (lv_at0 hl) ?_
              refine lv_iload_n hx hb gX12_taken_4.2.2.2.2.2.2.2.1 rfl (lv_at3 hl) ?_
              refine lv_icmp_eq (tgt := 95) hx hb gX12_taken_4.2.2.2.2.2.2.2.2.1 (by decide) (fun c_84_6063 => ?_) (fun c_84_6063 => ?_)
              · refine lv_iload_n hx hb gX12_taken_5.2.2.2.1 rfl (lv_at0 hl) ?_
                refine lv_iload_n hx hb gX12_taken_5.2.2.2.2.1 rfl (lv_at3 hl) ?_
                refine lv_icmp_ne (tgt := 109) hx hb gX12_taken_5.2.2.2.2.2.1 (by decide) (fun c9 => absurd (c_84_6063) c9) (fun _ => ?_)
                refine lv_aload_n hx hb gX12_taken_5.2.2.2.2.2.2.1 rfl (lv_at1 hl) ?_
                refine gf_X12_75 hC rfl hK hP 0 rfl rfl gX12_taken_5.2.2.2.2.2.2.2.1 ?_
                refine lv_iload_n hx hb gX12_taken_5.2.2.2.2.2.2.2.2.1 rfl (lv_at2 hl) ?_
                refine aldN hC hK hP 3 rfl (k := jt) (by omega) (Nat.le_of_ble_eq_true rfl) (v := fnsf jt) rfl gX12_taken_5.2.2.2.2.2.2.2.2.2 ?_
                refine lv_goto (tgt := 111) hx hb gX12_taken_6.1 (by decide) ?_
                refine toQ hQ0 ?_
                exact RP (v := fnsf jt) hC ((by first | rfl | (simp only [nI_clamp (n := jt) (by omega), ifc_t ekq, ifc_t hkq, ifc_t ek8, ifc_t hk8, ifc_t ek9, ifc_t hk9, ifc_t hN, ifc_t a6037, ifc_t a6039, ifc_f c_37_6040, ifc_f c_84_6057, ifc_f c_84_6060, ifc_t c_84_6063, ifc_t (q := Wi x2 0 6 ∨ Wi x2 10 14) (Or.inl a6039), a6042, ifc_f (q := (3 : Int32) < 0) (by decide), ifc_t (q := UNl (3 : Int32).toNatClampNeg x2) (show UNl 3 x2 from Or.inr (Or.inr (c_84_6063.symm)))]; done) | (simp only [nI_clamp (n := jt) (by omega), ifc_t ekq, ifc_t hkq, ifc_t ek8, ifc_t hk8, ifc_t ek9, ifc_t hk9, ifc_t hN, ifc_t a6037, ifc_t a6039, ifc_f c_37_6040, ifc_f c_84_6057, ifc_f c_84_6060, ifc_t c_84_6063, ifc_t (q := Wi x2 0 6 ∨ Wi x2 10 14) (Or.inl a6039), a6042, ifc_f (q := (3 : Int32) < 0) (by decide), ifc_t (q := UNl (3 : Int32).toNatClampNeg x2) (show UNl 3 x2 from Or.inr (Or.inr (c_84_6063.symm)))]; rfl))) rfl gX12_taken_6.2.2
              · refine lv_iload_n hx hb gX12_taken_4.2.2.2.2.2.2.2.2.2 rfl (lv_at0 hl) ?_
                refine pS hC hK hl (m_above0 l G) si_X12_348 rfl rfl (Nat.le_of_ble_eq_true rfl) rm_4_1_1 ⟨by first | exact Nat.le_of_ble_eq_true rfl | exact Nat.zero_le _, by first | exact Nat.le_of_ble_eq_true rfl | exact Nat.zero_le _⟩ gX12_taken_5.1 (Keqr ?_)
                refine lv_istore_n (lv' := [(3, .int (-1)), (0, .ref h0), (1, .int (nI jt)), (2, .int x2)]) hx hb gX12_taken_5.2.1 rfl hl (by decide) rfl (fun ls hl => ?_)
                refine lv_goto (tgt := 78) hx hb gX12_taken_5.2.2.1 (by decide) ?_
                refine lv_iload_n hx hb gX12_taken_4.2.2.2.2.1 rfl (lv_at0 hl) ?_
                refine lv_if_lt (tgt := 95) hx hb gX12_taken_4.2.2.2.2.2.1 (by decide) (fun _ => ?_) (fun c9 => absurd (by decide) c9)
                refine lv_iload_n hx hb gX12_taken_5.2.2.2.1 rfl (lv_at0 hl) ?_
                refine lv_iload_n hx hb gX12_taken_5.2.2.2.2.1 rfl (lv_at3 hl) ?_
                refine lv_icmp_ne (tgt := 109) hx hb gX12_taken_5.2.2.2.2.2.1 (by decide) (fun c_97_6066 => ?_) (fun c_97_6066 => ?_)
                · refine lv_bipush (v := (-13)) hx hb gX12_taken_6.2.1 (by decide) ?_
                  refine toQ hQ0 ?_
                  exact RP (v := (-13)) hC ((by first | rfl | (simp only [nI_clamp (n := jt) (by omega), ifc_t ekq, ifc_t hkq, ifc_t ek8, ifc_t hk8, ifc_t ek9, ifc_t hk9, ifc_t hN, ifc_t a6037, ifc_t a6039, ifc_f c_37_6040, ifc_f c_84_6057, ifc_f c_84_6060, ifc_f c_84_6063, ifc_f c_97_6066, ifc_t (q := Wi x2 0 6 ∨ Wi x2 10 14) (Or.inl a6039), a6042, ifc_f (q := (3 : Int32) < 0) (by decide), ifc_f (q := UNl (3 : Int32).toNatClampNeg x2) (fun h9 => (show False from by have h7 : x2 = 3 ∨ x2 = 1 ∨ x2 = 0 := h9; rcases h7 with h8 | h8 | h8 <;> (first | exact c_84_6057 h8.symm | exact c_84_6060 h8.symm | exact c_84_6063 h8.symm)))]; done) | (simp only [nI_clamp (n := jt) (by omega), ifc_t ekq, ifc_t hkq, ifc_t ek8, ifc_t hk8, ifc_t ek9, ifc_t hk9, ifc_t hN, ifc_t a6037, ifc_t a6039, ifc_f c_37_6040, ifc_f c_84_6057, ifc_f c_84_6060, ifc_f c_84_6063, ifc_f c_97_6066, ifc_t (q := Wi x2 0 6 ∨ Wi x2 10 14) (Or.inl a6039), a6042, ifc_f (q := (3 : Int32) < 0) (by decide), ifc_f (q := UNl (3 : Int32).toNatClampNeg x2) (fun h9 => (show False from by have h7 : x2 = 3 ∨ x2 = 1 ∨ x2 = 0 := h9; rcases h7 with h8 | h8 | h8 <;> (first | exact c_84_6057 h8.symm | exact c_84_6060 h8.symm | exact c_84_6063 h8.symm)))]; rfl))) rfl gX12_taken_6.2.2
                · refine lv_aload_n hx hb gX12_taken_5.2.2.2.2.2.2.1 rfl (lv_at1 hl) ?_
                  refine gf_X12_75 hC rfl hK hP 0 rfl rfl gX12_taken_5.2.2.2.2.2.2.2.1 ?_
                  refine lv_iload_n hx hb gX12_taken_5.2.2.2.2.2.2.2.2.1 rfl (lv_at2 hl) ?_
                  refine aldN hC hK hP 3 rfl (k := jt) (by omega) (Nat.le_of_ble_eq_true rfl) (v := fnsf jt) rfl gX12_taken_5.2.2.2.2.2.2.2.2.2 ?_
                  refine lv_goto (tgt := 111) hx hb gX12_taken_6.1 (by decide) ?_
                  refine toQ hQ0 ?_
                  exact RP (v := fnsf jt) hC ((absurd a6039 (by rw [← c_97_6066]; unfold Wi; decide))) rfl gX12_taken_6.2.2
        · refine lv_istore_n (lv' := [(3, .int 4), (0, .ref h0), (1, .int (nI jt)), (2, .int x2)]) hx hb gX12_taken_3.2.2.2.2.2.2.2.2.2 rfl hl (by decide) rfl (fun ls hl => ?_)
          refine lv_iload_n hx hb gX12_taken_4.1 rfl (lv_at0 hl) ?_
          refine lv_if_ge (tgt := 78) hx hb gX12_taken_4.2.1 (by decide) (fun _ => ?_) (fun c9 => absurd (by decide) c9)
          refine lv_iload_n hx hb gX12_taken_4.2.2.2.2.1 rfl (lv_at0 hl) ?_
          refine lv_if_lt (tgt := 95) hx hb gX12_taken_4.2.2.2.2.2.1 (by decide) (fun c9 => absurd c9 (by decide)) (fun _ => ?_)
          refine lv_iload_n hx hb gX12_taken_4.2.2.2.2.2.2.1 rfl (lv_at0 hl) ?_
          refine lv_iload_n hx hb gX12_taken_4.2.2.2.2.2.2.2.1 rfl (lv_at3 hl) ?_
          refine lv_icmp_eq (tgt := 95) hx hb gX12_taken_4.2.2.2.2.2.2.2.2.1 (by decide) (fun c_84_6067 => ?_) (fun c_84_6067 => ?_)
          · refine lv_iload_n hx hb gX12_taken_5.2.2.2.1 rfl (lv_at0 hl) ?_
            refine lv_iload_n hx hb gX12_taken_5.2.2.2.2.1 rfl (lv_at3 hl) ?_
            refine lv_icmp_ne (tgt := 109) hx hb gX12_taken_5.2.2.2.2.2.1 (by decide) (fun c9 => absurd (c_84_6067) c9) (fun _ => ?_)
            refine lv_aload_n hx hb gX12_taken_5.2.2.2.2.2.2.1 rfl (lv_at1 hl) ?_
            refine gf_X12_75 hC rfl hK hP 0 rfl rfl gX12_taken_5.2.2.2.2.2.2.2.1 ?_
            refine lv_iload_n hx hb gX12_taken_5.2.2.2.2.2.2.2.2.1 rfl (lv_at2 hl) ?_
            refine aldN hC hK hP 3 rfl (k := jt) (by omega) (Nat.le_of_ble_eq_true rfl) (v := fnsf jt) rfl gX12_taken_5.2.2.2.2.2.2.2.2.2 ?_
            refine lv_goto (tgt := 111) hx hb gX12_taken_6.1 (by decide) ?_
            refine toQ hQ0 ?_
            exact RP (v := fnsf jt) hC ((by first | rfl | (simp only [nI_clamp (n := jt) (by omega), ifc_t ekq, ifc_t hkq, ifc_t ek8, ifc_t hk8, ifc_t ek9, ifc_t hk9, ifc_t hN, ifc_t a6037, ifc_t a6039, ifc_f c_37_6040, ifc_t c_84_6067, ifc_t (q := Wi x2 0 6 ∨ Wi x2 10 14) (Or.inl a6039), a6042, ifc_f (q := (4 : Int32) < 0) (by decide), ifc_t (q := UNl (4 : Int32).toNatClampNeg x2) (show UNl 4 x2 from Or.inl (c_84_6067.symm))]; done) | (simp only [nI_clamp (n := jt) (by omega), ifc_t ekq, ifc_t hkq, ifc_t ek8, ifc_t hk8, ifc_t ek9, ifc_t hk9, ifc_t hN, ifc_t a6037, ifc_t a6039, ifc_f c_37_6040, ifc_t c_84_6067, ifc_t (q := Wi x2 0 6 ∨ Wi x2 10 14) (Or.inl a6039), a6042, ifc_f (q := (4 : Int32) < 0) (by decide), ifc_t (q := UNl (4 : Int32).toNatClampNeg x2) (show UNl 4 x2 from Or.inl (c_84_6067.symm))]; rfl))) rfl gX12_taken_6.2.2
          · refine lv_iload_n hx hb gX12_taken_4.2.2.2.2.2.2.2.2.2 rfl (lv_at0 hl) ?_
            refine pS hC hK hl (m_above4 l G) si_X12_348 rfl rfl (Nat.le_of_ble_eq_true rfl) rm_4_1_1 ⟨by first | exact Nat.le_of_ble_eq_true rfl | exact Nat.zero_le _, by first | exact Nat.le_of_ble_eq_true rfl | exact Nat.zero_le _⟩ gX12_taken_5.1 (Keqr ?_)
            refine lv_istore_n (lv' := [(3, .int 0), (0, .ref h0), (1, .int (nI jt)), (2, .int x2)]) hx hb gX12_taken_5.2.1 rfl hl (by decide) rfl (fun ls hl => ?_)
            refine lv_goto (tgt := 78) hx hb gX12_taken_5.2.2.1 (by decide) ?_
            refine lv_iload_n hx hb gX12_taken_4.2.2.2.2.1 rfl (lv_at0 hl) ?_
            refine lv_if_lt (tgt := 95) hx hb gX12_taken_4.2.2.2.2.2.1 (by decide) (fun c9 => absurd c9 (by decide)) (fun _ => ?_)
            refine lv_iload_n hx hb gX12_taken_4.2.2.2.2.2.2.1 rfl (lv_at0 hl) ?_
            refine lv_iload_n hx hb gX12_taken_4.2.2.2.2.2.2.2.1 rfl (lv_at3 hl) ?_
            refine lv_icmp_eq (tgt := 95) hx hb gX12_taken_4.2.2.2.2.2.2.2.2.1 (by decide) (fun c_84_6070 => ?_) (fun c_84_6070 => ?_)
            · refine lv_iload_n hx hb gX12_taken_5.2.2.2.1 rfl (lv_at0 hl) ?_
              refine lv_iload_n hx hb gX12_taken_5.2.2.2.2.1 rfl (lv_at3 hl) ?_
              refine lv_icmp_ne (tgt := 109) hx hb gX12_taken_5.2.2.2.2.2.1 (by decide) (fun c9 => absurd (c_84_6070) c9) (fun _ => ?_)
              refine lv_aload_n hx hb gX12_taken_5.2.2.2.2.2.2.1 rfl (lv_at1 hl) ?_
              refine gf_X12_75 hC rfl hK hP 0 rfl rfl gX12_taken_5.2.2.2.2.2.2.2.1 ?_
              refine lv_iload_n hx hb gX12_taken_5.2.2.2.2.2.2.2.2.1 rfl (lv_at2 hl) ?_
              refine aldN hC hK hP 3 rfl (k := jt) (by omega) (Nat.le_of_ble_eq_true rfl) (v := fnsf jt) rfl gX12_taken_5.2.2.2.2.2.2.2.2.2 ?_
              refine lv_goto (tgt := 111) hx hb gX12_taken_6.1 (by decide) ?_
              refine toQ hQ0 ?_
              exact RP (v := fnsf jt) hC ((by first | rfl | (simp only [nI_clamp (n := jt) (by omega), ifc_t ekq, ifc_t hkq, ifc_t ek8, ifc_t hk8, ifc_t ek9, ifc_t hk9, ifc_t hN, ifc_t a6037, ifc_t a6039, ifc_f c_37_6040, ifc_f c_84_6067, ifc_t c_84_6070, ifc_t (q := Wi x2 0 6 ∨ Wi x2 10 14) (Or.inl a6039), a6042, ifc_f (q := (4 : Int32) < 0) (by decide), ifc_t (q := UNl (4 : Int32).toNatClampNeg x2) (show UNl 4 x2 from Or.inr (c_84_6070.symm))]; done) | (simp only [nI_clamp (n := jt) (by omega), ifc_t ekq, ifc_t hkq, ifc_t ek8, ifc_t hk8, ifc_t ek9, ifc_t hk9, ifc_t hN, ifc_t a6037, ifc_t a6039, ifc_f c_37_6040, ifc_f c_84_6067, ifc_t c_84_6070, ifc_t (q := Wi x2 0 6 ∨ Wi x2 10 14) (Or.inl a6039), a6042, ifc_f (q := (4 : Int32) < 0) (by decide), ifc_t (q := UNl (4 : Int32).toNatClampNeg x2) (show UNl 4 x2 from Or.inr (c_84_6070.symm))]; rfl))) rfl gX12_taken_6.2.2
            · refine lv_iload_n hx hb gX12_taken_4.2.2.2.2.2.2.2.2.2 rfl (lv_at0 hl) ?_
              refine pS hC hK hl (m_above0 l G) si_X12_348 rfl rfl (Nat.le_of_ble_eq_true rfl) rm_4_1_1 ⟨by first | exact Nat.le_of_ble_eq_true rfl | exact Nat.zero_le _, by first | exact Nat.le_of_ble_eq_true rfl | exact Nat.zero_le _⟩ gX12_taken_5.1 (Keqr ?_)
              refine lv_istore_n (lv' := [(3, .int (-1)), (0, .ref h0), (1, .int (nI jt)), (2, .int x2)]) hx hb gX12_taken_5.2.1 rfl hl (by decide) rfl (fun ls hl => ?_)
              refine lv_goto (tgt := 78) hx hb gX12_taken_5.2.2.1 (by decide) ?_
              refine lv_iload_n hx hb gX12_taken_4.2.2.2.2.1 rfl (lv_at0 hl) ?_
              refine lv_if_lt (tgt := 95) hx hb gX12_taken_4.2.2.2.2.2.1 (by decide) (fun _ => ?_) (fun c9 => absurd (by decide) c9)
              refine lv_iload_n hx hb gX12_taken_5.2.2.2.1 rfl (lv_at0 hl) ?_
              refine lv_iload_n hx hb gX12_taken_5.2.2.2.2.1 rfl (lv_at3 hl) ?_
              refine lv_icmp_ne (tgt := 109) hx hb gX12_taken_5.2.2.2.2.2.1 (by decide) (fun c_97_6073 => ?_) (fun c_97_6073 => ?_)
              · refine lv_bipush (v := (-13)) hx hb gX12_taken_6.2.1 (by decide) ?_
                refine toQ hQ0 ?_
                exact RP (v := (-13)) hC ((by first | rfl | (simp only [nI_clamp (n := jt) (by omega), ifc_t ekq, ifc_t hkq, ifc_t ek8, ifc_t hk8, ifc_t ek9, ifc_t hk9, ifc_t hN, ifc_t a6037, ifc_t a6039, ifc_f c_37_6040, ifc_f c_84_6067, ifc_f c_84_6070, ifc_f c_97_6073, ifc_t (q := Wi x2 0 6 ∨ Wi x2 10 14) (Or.inl a6039), a6042, ifc_f (q := (4 : Int32) < 0) (by decide), ifc_f (q := UNl (4 : Int32).toNatClampNeg x2) (fun h9 => (show False from by have h7 : x2 = 4 ∨ x2 = 0 := h9; rcases h7 with h8 | h8 <;> (first | exact c_84_6067 h8.symm | exact c_84_6070 h8.symm)))]; done) | (simp only [nI_clamp (n := jt) (by omega), ifc_t ekq, ifc_t hkq, ifc_t ek8, ifc_t hk8, ifc_t ek9, ifc_t hk9, ifc_t hN, ifc_t a6037, ifc_t a6039, ifc_f c_37_6040, ifc_f c_84_6067, ifc_f c_84_6070, ifc_f c_97_6073, ifc_t (q := Wi x2 0 6 ∨ Wi x2 10 14) (Or.inl a6039), a6042, ifc_f (q := (4 : Int32) < 0) (by decide), ifc_f (q := UNl (4 : Int32).toNatClampNeg x2) (fun h9 => (show False from by have h7 : x2 = 4 ∨ x2 = 0 := h9; rcases h7 with h8 | h8 <;> (first | exact c_84_6067 h8.symm | exact c_84_6070 h8.symm)))]; rfl))) rfl gX12_taken_6.2.2
              · refine lv_aload_n hx hb gX12_taken_5.2.2.2.2.2.2.1 rfl (lv_at1 hl) ?_
                refine gf_X12_75 hC rfl hK hP 0 rfl rfl gX12_taken_5.2.2.2.2.2.2.2.1 ?_
                refine lv_iload_n hx hb gX12_taken_5.2.2.2.2.2.2.2.2.1 rfl (lv_at2 hl) ?_
                refine aldN hC hK hP 3 rfl (k := jt) (by omega) (Nat.le_of_ble_eq_true rfl) (v := fnsf jt) rfl gX12_taken_5.2.2.2.2.2.2.2.2.2 ?_
                refine lv_goto (tgt := 111) hx hb gX12_taken_6.1 (by decide) ?_
                refine toQ hQ0 ?_
                exact RP (v := fnsf jt) hC ((absurd a6039 (by rw [← c_97_6073]; unfold Wi; decide))) rfl gX12_taken_6.2.2
        · refine lv_istore_n (lv' := [(3, .int 5), (0, .ref h0), (1, .int (nI jt)), (2, .int x2)]) hx hb gX12_taken_3.2.2.2.2.2.2.2.2.2 rfl hl (by decide) rfl (fun ls hl => ?_)
          refine lv_iload_n hx hb gX12_taken_4.1 rfl (lv_at0 hl) ?_
          refine lv_if_ge (tgt := 78) hx hb gX12_taken_4.2.1 (by decide) (fun _ => ?_) (fun c9 => absurd (by decide) c9)
          refine lv_iload_n hx hb gX12_taken_4.2.2.2.2.1 rfl (lv_at0 hl) ?_
          refine lv_if_lt (tgt := 95) hx hb gX12_taken_4.2.2.2.2.2.1 (by decide) (fun c9 => absurd c9 (by decide)) (fun _ => ?_)
          refine lv_iload_n hx hb gX12_taken_4.2.2.2.2.2.2.1 rfl (lv_at0 hl) ?_
          refine lv_iload_n hx hb gX12_taken_4.2.2.2.2.2.2.2.1 rfl (lv_at3 hl) ?_
          refine lv_icmp_eq (tgt := 95) hx hb gX12_taken_4.2.2.2.2.2.2.2.2.1 (by decide) (fun c_84_6074 => ?_) (fun c_84_6074 => ?_)
          · refine lv_iload_n hx hb gX12_taken_5.2.2.2.1 rfl (lv_at0 hl) ?_
            refine lv_iload_n hx hb gX12_taken_5.2.2.2.2.1 rfl (lv_at3 hl) ?_
            refine lv_icmp_ne (tgt := 109) hx hb gX12_taken_5.2.2.2.2.2.1 (by decide) (fun c9 => absurd (c_84_6074) c9) (fun _ => ?_)
            refine lv_aload_n hx hb gX12_taken_5.2.2.2.2.2.2.1 rfl (lv_at1 hl) ?_
            refine gf_X12_75 hC rfl hK hP 0 rfl rfl gX12_taken_5.2.2.2.2.2.2.2.1 ?_
            refine lv_iload_n hx hb gX12_taken_5.2.2.2.2.2.2.2.2.1 rfl (lv_at2 hl) ?_
            refine aldN hC hK hP 3 rfl (k := jt) (by omega) (Nat.le_of_ble_eq_true rfl) (v := fnsf jt) rfl gX12_taken_5.2.2.2.2.2.2.2.2.2 ?_
            refine lv_goto (tgt := 111) hx hb gX12_taken_6.1 (by decide) ?_
            refine toQ hQ0 ?_
            exact RP (v := fnsf jt) hC ((by first | rfl | (simp only [nI_clamp (n := jt) (by omega), ifc_t ekq, ifc_t hkq, ifc_t ek8, ifc_t hk8, ifc_t ek9, ifc_t hk9, ifc_t hN, ifc_t a6037, ifc_t a6039, ifc_f c_37_6040, ifc_t c_84_6074, ifc_t (q := Wi x2 0 6 ∨ Wi x2 10 14) (Or.inl a6039), a6042, ifc_f (q := (5 : Int32) < 0) (by decide), ifc_t (q := UNl (5 : Int32).toNatClampNeg x2) (show UNl 5 x2 from Or.inl (c_84_6074.symm))]; done) | (simp only [nI_clamp (n := jt) (by omega), ifc_t ekq, ifc_t hkq, ifc_t ek8, ifc_t hk8, ifc_t ek9, ifc_t hk9, ifc_t hN, ifc_t a6037, ifc_t a6039, ifc_f c_37_6040, ifc_t c_84_6074, ifc_t (q := Wi x2 0 6 ∨ Wi x2 10 14) (Or.inl a6039), a6042, ifc_f (q := (5 : Int32) < 0) (by decide), ifc_t (q := UNl (5 : Int32).toNatClampNeg x2) (show UNl 5 x2 from Or.inl (c_84_6074.symm))]; rfl))) rfl gX12_taken_6.2.2
          · refine lv_iload_n hx hb gX12_taken_4.2.2.2.2.2.2.2.2.2 rfl (lv_at0 hl) ?_
            refine pS hC hK hl (m_above5 l G) si_X12_348 rfl rfl (Nat.le_of_ble_eq_true rfl) rm_4_1_1 ⟨by first | exact Nat.le_of_ble_eq_true rfl | exact Nat.zero_le _, by first | exact Nat.le_of_ble_eq_true rfl | exact Nat.zero_le _⟩ gX12_taken_5.1 (Keqr ?_)
            refine lv_istore_n (lv' := [(3, .int 4), (0, .ref h0), (1, .int (nI jt)), (2, .int x2)]) hx hb gX12_taken_5.2.1 rfl hl (by decide) rfl (fun ls hl => ?_)
            refine lv_goto (tgt := 78) hx hb gX12_taken_5.2.2.1 (by decide) ?_
            refine lv_iload_n hx hb gX12_taken_4.2.2.2.2.1 rfl (lv_at0 hl) ?_
            refine lv_if_lt (tgt := 95) hx hb gX12_taken_4.2.2.2.2.2.1 (by decide) (fun c9 => absurd c9 (by decide)) (fun _ => ?_)
            refine lv_iload_n hx hb gX12_taken_4.2.2.2.2.2.2.1 rfl (lv_at0 hl) ?_
            refine lv_iload_n hx hb gX12_taken_4.2.2.2.2.2.2.2.1 rfl (lv_at3 hl) ?_
            refine lv_icmp_eq (tgt := 95) hx hb gX12_taken_4.2.2.2.2.2.2.2.2.1 (by decide) (fun c_84_6077 => ?_) (fun c_84_6077 => ?_)
            · refine lv_iload_n hx hb gX12_taken_5.2.2.2.1 rfl (lv_at0 hl) ?_
              refine lv_iload_n hx hb gX12_taken_5.2.2.2.2.1 rfl (lv_at3 hl) ?_
              refine lv_icmp_ne (tgt := 109) hx hb gX12_taken_5.2.2.2.2.2.1 (by decide) (fun c9 => absurd (c_84_6077) c9) (fun _ => ?_)
              refine lv_aload_n hx hb gX12_taken_5.2.2.2.2.2.2.1 rfl (lv_at1 hl) ?_
              refine gf_X12_75 hC rfl hK hP 0 rfl rfl gX12_taken_5.2.2.2.2.2.2.2.1 ?_
              refine lv_iload_n hx hb gX12_taken_5.2.2.2.2.2.2.2.2.1 rfl (lv_at2 hl) ?_
              refine aldN hC hK hP 3 rfl (k := jt) (by omega) (Nat.le_of_ble_eq_true rfl) (v := fnsf jt) rfl gX12_taken_5.2.2.2.2.2.2.2.2.2 ?_
              refine lv_goto (tgt := 111) hx hb gX12_taken_6.1 (by decide) ?_
              refine toQ hQ0 ?_
              exact RP (v := fnsf jt) hC ((by first | rfl | (simp only [nI_clamp (n := jt) (by omega), ifc_t ekq, ifc_t hkq, ifc_t ek8, ifc_t hk8, ifc_t ek9, ifc_t hk9, ifc_t hN, ifc_t a6037, ifc_t a6039, ifc_f c_37_6040, ifc_f c_84_6074, ifc_t c_84_6077, ifc_t (q := Wi x2 0 6 ∨ Wi x2 10 14) (Or.inl a6039), a6042, ifc_f (q := (5 : Int32) < 0) (by decide), ifc_t (q := UNl (5 : Int32).toNatClampNeg x2) (show UNl 5 x2 from Or.inr (Or.inl (c_84_6077.symm)))]; done) | (simp only [nI_clamp (n := jt) (by omega), ifc_t ekq, ifc_t hkq, ifc_t ek8, ifc_t hk8, ifc_t ek9, ifc_t hk9, ifc_t hN, ifc_t a6037, ifc_t a6039, ifc_f c_37_6040, ifc_f c_84_6074, ifc_t c_84_6077, ifc_t (q := Wi x2 0 6 ∨ Wi x2 10 14) (Or.inl a6039), a6042, ifc_f (q := (5 : Int32) < 0) (by decide), ifc_t (q := UNl (5 : Int32).toNatClampNeg x2) (show UNl 5 x2 from Or.inr (Or.inl (c_84_6077.symm)))]; rfl))) rfl gX12_taken_6.2.2
            · refine lv_iload_n hx hb gX12_taken_4.2.2.2.2.2.2.2.2.2 rfl (lv_at0 hl) ?_
              refine pS hC hK hl (m_above4 l G) si_X12_348 rfl rfl (Nat.le_of_ble_eq_true rfl) rm_4_1_1 ⟨by first | exact Nat.le_of_ble_eq_true rfl | exact Nat.zero_le _, by first | exact Nat.le_of_ble_eq_true rfl | exact Nat.zero_le _⟩ gX12_taken_5.1 (Keqr ?_)
              refine lv_istore_n (lv' := [(3, .int 0), (0, .ref h0), (1, .int (nI jt)), (2, .int x2)]) hx hb gX12_taken_5.2.1 rfl hl (by decide) rfl (fun ls hl => ?_)
              refine lv_goto (tgt := 78) hx hb gX12_taken_5.2.2.1 (by decide) ?_
              refine lv_iload_n hx hb gX12_taken_4.2.2.2.2.1 rfl (lv_at0 hl) ?_
              refine lv_if_lt (tgt := 95) hx hb gX12_taken_4.2.2.2.2.2.1 (by decide) (fun c9 => absurd c9 (by decide)) (fun _ => ?_)
              refine lv_iload_n hx hb gX12_taken_4.2.2.2.2.2.2.1 rfl (lv_at0 hl) ?_
              refine lv_iload_n hx hb gX12_taken_4.2.2.2.2.2.2.2.1 rfl (lv_at3 hl) ?_
              refine lv_icmp_eq (tgt := 95) hx hb gX12_taken_4.2.2.2.2.2.2.2.2.1 (by decide) (fun c_84_6080 => ?_) (fun c_84_6080 => ?_)
              · refine lv_iload_n hx hb gX12_taken_5.2.2.2.1 rfl (lv_at0 hl) ?_
                refine lv_iload_n hx hb gX12_taken_5.2.2.2.2.1 rfl (lv_at3 hl) ?_
                refine lv_icmp_ne (tgt := 109) hx hb gX12_taken_5.2.2.2.2.2.1 (by decide) (fun c9 => absurd (c_84_6080) c9) (fun _ => ?_)
                refine lv_aload_n hx hb gX12_taken_5.2.2.2.2.2.2.1 rfl (lv_at1 hl) ?_
                refine gf_X12_75 hC rfl hK hP 0 rfl rfl gX12_taken_5.2.2.2.2.2.2.2.1 ?_
                refine lv_iload_n hx hb gX12_taken_5.2.2.2.2.2.2.2.2.1 rfl (lv_at2 hl) ?_
                refine aldN hC hK hP 3 rfl (k := jt) (by omega) (Nat.le_of_ble_eq_true rfl) (v := fnsf jt) rfl gX12_taken_5.2.2.2.2.2.2.2.2.2 ?_
                refine lv_goto (tgt := 111) hx hb gX12_taken_6.1 (by decide) ?_
                refine toQ hQ0 ?_
                exact RP (v := fnsf jt) hC ((by first | rfl | (simp only [nI_clamp (n := jt) (by omega), ifc_t ekq, ifc_t hkq, ifc_t ek8, ifc_t hk8, ifc_t ek9, ifc_t hk9, ifc_t hN, ifc_t a6037, ifc_t a6039, ifc_f c_37_6040, ifc_f c_84_6074, ifc_f c_84_6077, ifc_t c_84_6080, ifc_t (q := Wi x2 0 6 ∨ Wi x2 10 14) (Or.inl a6039), a6042, ifc_f (q := (5 : Int32) < 0) (by decide), ifc_t (q := UNl (5 : Int32).toNatClampNeg x2) (show UNl 5 x2 from Or.inr (Or.inr (c_84_6080.symm)))]; done) | (simp only [nI_clamp (n := jt) (by omega), ifc_t ekq, ifc_t hkq, ifc_t ek8, ifc_t hk8, ifc_t ek9, ifc_t hk9, ifc_t hN, ifc_t a6037, ifc_t a6039, ifc_f c_37_6040, ifc_f c_84_6074, ifc_f c_84_6077, ifc_t c_84_6080, ifc_t (q := Wi x2 0 6 ∨ Wi x2 10 14) (Or.inl a6039), a6042, ifc_f (q := (5 : Int32) < 0) (by decide), ifc_t (q := UNl (5 : Int32).toNatClampNeg x2) (show UNl 5 x2 from Or.inr (Or.inr (c_84_6080.symm)))]; rfl))) rfl gX12_taken_6.2.2
              · refine lv_iload_n hx hb gX12_taken_4.2.2.2.2.2.2.2.2.2 rfl (lv_at0 hl) ?_
                refine pS hC hK hl (m_above0 l G) si_X12_348 rfl rfl (Nat.le_of_ble_eq_true rfl) rm_4_1_1 ⟨by first | exact Nat.le_of_ble_eq_true rfl | exact Nat.zero_le _, by first | exact Nat.le_of_ble_eq_true rfl | exact Nat.zero_le _⟩ gX12_taken_5.1 (Keqr ?_)
                refine lv_istore_n (lv' := [(3, .int (-1)), (0, .ref h0), (1, .int (nI jt)), (2, .int x2)]) hx hb gX12_taken_5.2.1 rfl hl (by decide) rfl (fun ls hl => ?_)
                refine lv_goto (tgt := 78) hx hb gX12_taken_5.2.2.1 (by decide) ?_
                refine lv_iload_n hx hb gX12_taken_4.2.2.2.2.1 rfl (lv_at0 hl) ?_
                refine lv_if_lt (tgt := 95) hx hb gX12_taken_4.2.2.2.2.2.1 (by decide) (fun _ => ?_) (fun c9 => absurd (by decide) c9)
                refine lv_iload_n hx hb gX12_taken_5.2.2.2.1 rfl (lv_at0 hl) ?_
                refine lv_iload_n hx hb gX12_taken_5.2.2.2.2.1 rfl (lv_at3 hl) ?_
                refine lv_icmp_ne (tgt := 109) hx hb gX12_taken_5.2.2.2.2.2.1 (by decide) (fun c_97_6083 => ?_) (fun c_97_6083 => ?_)
                · refine lv_bipush (v := (-13)) hx hb gX12_taken_6.2.1 (by decide) ?_
                  refine toQ hQ0 ?_
                  exact RP (v := (-13)) hC ((by first | rfl | (simp only [nI_clamp (n := jt) (by omega), ifc_t ekq, ifc_t hkq, ifc_t ek8, ifc_t hk8, ifc_t ek9, ifc_t hk9, ifc_t hN, ifc_t a6037, ifc_t a6039, ifc_f c_37_6040, ifc_f c_84_6074, ifc_f c_84_6077, ifc_f c_84_6080, ifc_f c_97_6083, ifc_t (q := Wi x2 0 6 ∨ Wi x2 10 14) (Or.inl a6039), a6042, ifc_f (q := (5 : Int32) < 0) (by decide), ifc_f (q := UNl (5 : Int32).toNatClampNeg x2) (fun h9 => (show False from by have h7 : x2 = 5 ∨ x2 = 4 ∨ x2 = 0 := h9; rcases h7 with h8 | h8 | h8 <;> (first | exact c_84_6074 h8.symm | exact c_84_6077 h8.symm | exact c_84_6080 h8.symm)))]; done) | (simp only [nI_clamp (n := jt) (by omega), ifc_t ekq, ifc_t hkq, ifc_t ek8, ifc_t hk8, ifc_t ek9, ifc_t hk9, ifc_t hN, ifc_t a6037, ifc_t a6039, ifc_f c_37_6040, ifc_f c_84_6074, ifc_f c_84_6077, ifc_f c_84_6080, ifc_f c_97_6083, ifc_t (q := Wi x2 0 6 ∨ Wi x2 10 14) (Or.inl a6039), a6042, ifc_f (q := (5 : Int32) < 0) (by decide), ifc_f (q := UNl (5 : Int32).toNatClampNeg x2) (fun h9 => (show False from by have h7 : x2 = 5 ∨ x2 = 4 ∨ x2 = 0 := h9; rcases h7 with h8 | h8 | h8 <;> (first | exact c_84_6074 h8.symm | exact c_84_6077 h8.symm | exact c_84_6080 h8.symm)))]; rfl))) rfl gX12_taken_6.2.2
                · refine lv_aload_n hx hb gX12_taken_5.2.2.2.2.2.2.1 rfl (lv_at1 hl) ?_
                  refine gf_X12_75 hC rfl hK hP 0 rfl rfl gX12_taken_5.2.2.2.2.2.2.2.1 ?_
                  refine lv_iload_n hx hb gX12_taken_5.2.2.2.2.2.2.2.2.1 rfl (lv_at2 hl) ?_
                  refine aldN hC hK hP 3 rfl (k := jt) (by omega) (Nat.le_of_ble_eq_true rfl) (v := fnsf jt) rfl gX12_taken_5.2.2.2.2.2.2.2.2.2 ?_
                  refine lv_goto (tgt := 111) hx hb gX12_taken_6.1 (by decide) ?_
                  refine toQ hQ0 ?_
                  exact RP (v := fnsf jt) hC ((absurd a6039 (by rw [← c_97_6083]; unfold Wi; decide))) rfl gX12_taken_6.2.2
        · refine lv_istore_n (lv' := [(3, .int 6), (0, .ref h0), (1, .int (nI jt)), (2, .int x2)]) hx hb gX12_taken_3.2.2.2.2.2.2.2.2.2 rfl hl (by decide) rfl (fun ls hl => ?_)
          refine lv_iload_n hx hb gX12_taken_4.1 rfl (lv_at0 hl) ?_
          refine lv_if_ge (tgt := 78) hx hb gX12_taken_4.2.1 (by decide) (fun _ => ?_) (fun c9 => absurd (by decide) c9)
          refine lv_iload_n hx hb gX12_taken_4.2.2.2.2.1 rfl (lv_at0 hl) ?_
          refine lv_if_lt (tgt := 95) hx hb gX12_taken_4.2.2.2.2.2.1 (by decide) (fun c9 => absurd c9 (by decide)) (fun _ => ?_)
          refine lv_iload_n hx hb gX12_taken_4.2.2.2.2.2.2.1 rfl (lv_at0 hl) ?_
          refine lv_iload_n hx hb gX12_taken_4.2.2.2.2.2.2.2.1 rfl (lv_at3 hl) ?_
          refine lv_icmp_eq (tgt := 95) hx hb gX12_taken_4.2.2.2.2.2.2.2.2.1 (by decide) (fun c_84_6084 => ?_) (fun c_84_6084 => ?_)
          · refine lv_iload_n hx hb gX12_taken_5.2.2.2.1 rfl (lv_at0 hl) ?_
            refine lv_iload_n hx hb gX12_taken_5.2.2.2.2.1 rfl (lv_at3 hl) ?_
            refine lv_icmp_ne (tgt := 109) hx hb gX12_taken_5.2.2.2.2.2.1 (by decide) (fun c9 => absurd (c_84_6084) c9) (fun _ => ?_)
            refine lv_aload_n hx hb gX12_taken_5.2.2.2.2.2.2.1 rfl (lv_at1 hl) ?_
            refine gf_X12_75 hC rfl hK hP 0 rfl rfl gX12_taken_5.2.2.2.2.2.2.2.1 ?_
            refine lv_iload_n hx hb gX12_taken_5.2.2.2.2.2.2.2.2.1 rfl (lv_at2 hl) ?_
            refine aldN hC hK hP 3 rfl (k := jt) (by omega) (Nat.le_of_ble_eq_true rfl) (v := fnsf jt) rfl gX12_taken_5.2.2.2.2.2.2.2.2.2 ?_
            refine lv_goto (tgt := 111) hx hb gX12_taken_6.1 (by decide) ?_
            refine toQ hQ0 ?_
            exact RP (v := fnsf jt) hC ((by first | rfl | (simp only [nI_clamp (n := jt) (by omega), ifc_t ekq, ifc_t hkq, ifc_t ek8, ifc_t hk8, ifc_t ek9, ifc_t hk9, ifc_t hN, ifc_t a6037, ifc_t a6039, ifc_f c_37_6040, ifc_t c_84_6084, ifc_t (q := Wi x2 0 6 ∨ Wi x2 10 14) (Or.inl a6039), a6042, ifc_f (q := (6 : Int32) < 0) (by decide), ifc_t (q := UNl (6 : Int32).toNatClampNeg x2) (show UNl 6 x2 from Or.inl (c_84_6084.symm))]; done) | (simp only [nI_clamp (n := jt) (by omega), ifc_t ekq, ifc_t hkq, ifc_t ek8, ifc_t hk8, ifc_t ek9, ifc_t hk9, ifc_t hN, ifc_t a6037, ifc_t a6039, ifc_f c_37_6040, ifc_t c_84_6084, ifc_t (q := Wi x2 0 6 ∨ Wi x2 10 14) (Or.inl a6039), a6042, ifc_f (q := (6 : Int32) < 0) (by decide), ifc_t (q := UNl (6 : Int32).toNatClampNeg x2) (show UNl 6 x2 from Or.inl (c_84_6084.symm))]; rfl))) rfl gX12_taken_6.2.2
          · refine lv_iload_n hx hb gX12_taken_4.2.2.2.2.2.2.2.2.2 rfl (lv_at0 hl) ?_
            refine pS hC hK hl (m_above6 l G) si_X12_348 rfl rfl (Nat.le_of_ble_eq_true rfl) rm_4_1_1 ⟨by first | exact Nat.le_of_ble_eq_true rfl | exact Nat.zero_le _, by first | exact Nat.le_of_ble_eq_true rfl | exact Nat.zero_le _⟩ gX12_taken_5.1 (Keqr ?_)
            refine lv_istore_n (lv' := [(3, .int 0), (0, .ref h0), (1, .int (nI jt)), (2, .int x2)]) hx hb gX12_taken_5.2.1 rfl hl (by decide) rfl (fun ls hl => ?_)
            refine lv_goto (tgt := 78) hx hb gX12_taken_5.2.2.1 (by decide) ?_
            refine lv_iload_n hx hb gX12_taken_4.2.2.2.2.1 rfl (lv_at0 hl) ?_
            refine lv_if_lt (tgt := 95) hx hb gX12_taken_4.2.2.2.2.2.1 (by decide) (fun c9 => absurd c9 (by decide)) (fun _ => ?_)
            refine lv_iload_n hx hb gX12_taken_4.2.2.2.2.2.2.1 rfl (lv_at0 hl) ?_
            refine lv_iload_n hx hb gX12_taken_4.2.2.2.2.2.2.2.1 rfl (lv_at3 hl) ?_
            refine lv_icmp_eq (tgt := 95) hx hb gX12_taken_4.2.2.2.2.2.2.2.2.1 (by decide) (fun c_84_6087 => ?_) (fun c_84_6087 => ?_)
            · refine lv_iload_n hx hb gX12_taken_5.2.2.2.1 rfl (lv_at0 hl) ?_
              refine lv_iload_n hx hb gX12_taken_5.2.2.2.2.1 rfl (lv_at3 hl) ?_
              refine lv_icmp_ne (tgt := 109) hx hb gX12_taken_5.2.2.2.2.2.1 (by decide) (fun c9 => absurd (c_84_6087) c9) (fun _ => ?_)
              refine lv_aload_n hx hb gX12_taken_5.2.2.2.2.2.2.1 rfl (lv_at1 hl) ?_
              refine gf_X12_75 hC rfl hK hP 0 rfl rfl gX12_taken_5.2.2.2.2.2.2.2.1 ?_
              refine lv_iload_n hx hb gX12_taken_5.2.2.2.2.2.2.2.2.1 rfl (lv_at2 hl) ?_
              refine aldN hC hK hP 3 rfl (k := jt) (by omega) (Nat.le_of_ble_eq_true rfl) (v := fnsf jt) rfl gX12_taken_5.2.2.2.2.2.2.2.2.2 ?_
              refine lv_goto (tgt := 111) hx hb gX12_taken_6.1 (by decide) ?_
              refine toQ hQ0 ?_
              exact RP (v := fnsf jt) hC ((by first | rfl | (simp only [nI_clamp (n := jt) (by omega), ifc_t ekq, ifc_t hkq, ifc_t ek8, ifc_t hk8, ifc_t ek9, ifc_t hk9, ifc_t hN, ifc_t a6037, ifc_t a6039, ifc_f c_37_6040, ifc_f c_84_6084, ifc_t c_84_6087, ifc_t (q := Wi x2 0 6 ∨ Wi x2 10 14) (Or.inl a6039), a6042, ifc_f (q := (6 : Int32) < 0) (by decide), ifc_t (q := UNl (6 : Int32).toNatClampNeg x2) (show UNl 6 x2 from Or.inr (c_84_6087.symm))]; done) | (simp only [nI_clamp (n := jt) (by omega), ifc_t ekq, ifc_t hkq, ifc_t ek8, ifc_t hk8, ifc_t ek9, ifc_t hk9, ifc_t hN, ifc_t a6037, ifc_t a6039, ifc_f c_37_6040, ifc_f c_84_6084, ifc_t c_84_6087, ifc_t (q := Wi x2 0 6 ∨ Wi x2 10 14) (Or.inl a6039), a6042, ifc_f (q := (6 : Int32) < 0) (by decide), ifc_t (q := UNl (6 : Int32).toNatClampNeg x2) (show UNl 6 x2 from Or.inr (c_84_6087.symm))]; rfl))) rfl gX12_taken_6.2.2
            · refine lv_iload_n hx hb gX12_taken_4.2.2.2.2.2.2.2.2.2 rfl (lv_at0 hl) ?_
              refine pS hC hK hl (m_above0 l G) si_X12_348 rfl rfl (Nat.le_of_ble_eq_true rfl) rm_4_1_1 ⟨by first | exact Nat.le_of_ble_eq_true rfl | exact Nat.zero_le _, by first | exact Nat.le_of_ble_eq_true rfl | exact Nat.zero_le _⟩ gX12_taken_5.1 (Keqr ?_)
              refine lv_istore_n (lv' := [(3, .int (-1)), (0, .ref h0), (1, .int (nI jt)), (2, .int x2)]) hx hb gX12_taken_5.2.1 rfl hl (by decide) rfl (fun ls hl => ?_)
              refine lv_goto (tgt := 78) hx hb gX12_taken_5.2.2.1 (by decide) ?_
              refine lv_iload_n hx hb gX12_taken_4.2.2.2.2.1 rfl (lv_at0 hl) ?_
              refine lv_if_lt (tgt := 95) hx hb gX12_taken_4.2.2.2.2.2.1 (by decide) (fun _ => ?_) (fun c9 => absurd (by decide) c9)
              refine lv_iload_n hx hb gX12_taken_5.2.2.2.1 rfl (lv_at0 hl) ?_
              refine lv_iload_n hx hb gX12_taken_5.2.2.2.2.1 rfl (lv_at3 hl) ?_
              refine lv_icmp_ne (tgt := 109) hx hb gX12_taken_5.2.2.2.2.2.1 (by decide) (fun c_97_6090 => ?_) (fun c_97_6090 => ?_)
              · refine lv_bipush (v := (-13)) hx hb gX12_taken_6.2.1 (by decide) ?_
                refine toQ hQ0 ?_
                exact RP (v := (-13)) hC ((by first | rfl | (simp only [nI_clamp (n := jt) (by omega), ifc_t ekq, ifc_t hkq, ifc_t ek8, ifc_t hk8, ifc_t ek9, ifc_t hk9, ifc_t hN, ifc_t a6037, ifc_t a6039, ifc_f c_37_6040, ifc_f c_84_6084, ifc_f c_84_6087, ifc_f c_97_6090, ifc_t (q := Wi x2 0 6 ∨ Wi x2 10 14) (Or.inl a6039), a6042, ifc_f (q := (6 : Int32) < 0) (by decide), ifc_f (q := UNl (6 : Int32).toNatClampNeg x2) (fun h9 => (show False from by have h7 : x2 = 6 ∨ x2 = 0 := h9; rcases h7 with h8 | h8 <;> (first | exact c_84_6084 h8.symm | exact c_84_6087 h8.symm)))]; done) | (simp only [nI_clamp (n := jt) (by omega), ifc_t ekq, ifc_t hkq, ifc_t ek8, ifc_t hk8, ifc_t ek9, ifc_t hk9, ifc_t hN, ifc_t a6037, ifc_t a6039, ifc_f c_37_6040, ifc_f c_84_6084, ifc_f c_84_6087, ifc_f c_97_6090, ifc_t (q := Wi x2 0 6 ∨ Wi x2 10 14) (Or.inl a6039), a6042, ifc_f (q := (6 : Int32) < 0) (by decide), ifc_f (q := UNl (6 : Int32).toNatClampNeg x2) (fun h9 => (show False from by have h7 : x2 = 6 ∨ x2 = 0 := h9; rcases h7 with h8 | h8 <;> (first | exact c_84_6084 h8.symm | exact c_84_6087 h8.symm)))]; rfl))) rfl gX12_taken_6.2.2
              · refine lv_aload_n hx hb gX12_taken_5.2.2.2.2.2.2.1 rfl (lv_at1 hl) ?_
                refine gf_X12_75 hC rfl hK hP 0 rfl rfl gX12_taken_5.2.2.2.2.2.2.2.1 ?_
                refine lv_iload_n hx hb gX12_taken_5.2.2.2.2.2.2.2.2.1 rfl (lv_at2 hl) ?_
                refine aldN hC hK hP 3 rfl (k := jt) (by omega) (Nat.le_of_ble_eq_true rfl) (v := fnsf jt) rfl gX12_taken_5.2.2.2.2.2.2.2.2.2 ?_
                refine lv_goto (tgt := 111) hx hb gX12_taken_6.1 (by decide) ?_
                refine toQ hQ0 ?_
                exact RP (v := fnsf jt) hC ((absurd a6039 (by rw [← c_97_6090]; unfold Wi; decide))) rfl gX12_taken_6.2.2
      · refine lv_iload_n hx hb gX12_taken_2.2.1 rfl (lv_at2 hl) ?_
        refine lv_bipush (v := 10) hx hb gX12_taken_2.2.2.1 (by decide) ?_
        refine lv_isub hx hb gX12_taken_2.2.2.2.1 ?_
        refine lv_aload_n hx hb gX12_taken_2.2.2.2.2.1 rfl (lv_at0 hl) ?_
        refine gf_X12_75 hC rfl hK hP 0 rfl rfl gX12_taken_2.2.2.2.2.2.1 ?_
        refine lv_iload_n hx hb gX12_taken_2.2.2.2.2.2.2.1 rfl (lv_at1 hl) ?_
        refine aldN hC hK hP 3 rfl (k := jt) (by omega) (Nat.le_of_ble_eq_true rfl) (v := fnsf jt) rfl gX12_taken_2.2.2.2.2.2.2.2.1 ?_
        refine lv_icmp_ne (tgt := 62) hx hb gX12_taken_2.2.2.2.2.2.2.2.2.1 (by decide) (fun c_50_6091 => ?_) (fun c_50_6091 => ?_)
        · refine lv_bipush (v := (-13)) hx hb gX12_taken_3.2.2.2.2.1 (by decide) ?_
          refine toQ hQ0 ?_
          exact RP (v := (-13)) hC ((by first | rfl | (simp only [nI_clamp (n := jt) (by omega), ifc_t ekq, ifc_t hkq, ifc_t ek8, ifc_t hk8, ifc_t ek9, ifc_t hk9, ifc_t hN, ifc_t a6037, ifc_t a6039, ifc_t c_37_6040, ifc_f c_50_6091, ifc_t (q := Wi x2 0 6 ∨ Wi x2 10 14) (Or.inl a6039)]; done) | (simp only [nI_clamp (n := jt) (by omega), ifc_t ekq, ifc_t hkq, ifc_t ek8, ifc_t hk8, ifc_t ek9, ifc_t hk9, ifc_t hN, ifc_t a6037, ifc_t a6039, ifc_t c_37_6040, ifc_f c_50_6091, ifc_t (q := Wi x2 0 6 ∨ Wi x2 10 14) (Or.inl a6039)]; rfl))) rfl gX12_taken_3.2.2.2.2.2.1
        · refine lv_aload_n hx hb gX12_taken_2.2.2.2.2.2.2.2.2.2 rfl (lv_at0 hl) ?_
          refine gf_X12_78 hC rfl hK hP 0 rfl rfl gX12_taken_3.1 ?_
          refine lv_iload_n hx hb gX12_taken_3.2.1 rfl (lv_at1 hl) ?_
          refine aldN hC hK hP 4 rfl (k := jt) (by omega) (Nat.le_of_ble_eq_true rfl) (v := fnss jt) rfl gX12_taken_3.2.2.1 ?_
          refine lv_goto (tgt := 64) hx hb gX12_taken_3.2.2.2.1 (by decide) ?_
          refine toQ hQ0 ?_
          exact RP (v := fnss jt) hC ((by first | rfl | (simp only [nI_clamp (n := jt) (by omega), ifc_t ekq, ifc_t hkq, ifc_t ek8, ifc_t hk8, ifc_t ek9, ifc_t hk9, ifc_t hN, ifc_t a6037, ifc_t a6039, ifc_t c_37_6040, ifc_t c_50_6091, ifc_t (q := Wi x2 0 6 ∨ Wi x2 10 14) (Or.inl a6039)]; done) | (simp only [nI_clamp (n := jt) (by omega), ifc_t ekq, ifc_t hkq, ifc_t ek8, ifc_t hk8, ifc_t ek9, ifc_t hk9, ifc_t hN, ifc_t a6037, ifc_t a6039, ifc_t c_37_6040, ifc_t c_50_6091, ifc_t (q := Wi x2 0 6 ∨ Wi x2 10 14) (Or.inl a6039)]; rfl))) rfl gX12_taken_3.2.2.2.2.2.1
    · refine lv_if_ne (tgt := 30) hx hb gX12_taken_0.2.2.2.2.2.2.2.1 (by decide) (fun c9 => absurd (by decide) c9) (fun _ => ?_)
      refine lv_iload_n hx hb gX12_taken_0.2.2.2.2.2.2.2.2.1 rfl (lv_at2 hl) ?_
      refine lv_bipush (v := 10) hx hb gX12_taken_0.2.2.2.2.2.2.2.2.2 (by decide) ?_
      refine lv_bipush (v := 14) hx hb gX12_taken_1.1 (by decide) ?_
      refine pS hC hK hl (m_within l G x2 10 14) si_X12_84 rfl rfl (Nat.le_of_ble_eq_true rfl) rm_4_1_3 ⟨by first | exact Nat.le_of_ble_eq_true rfl | exact Nat.zero_le _, by first | exact Nat.le_of_ble_eq_true rfl | exact Nat.zero_le _⟩ gX12_taken_1.2.1 (Kors (Keqa fun a6093 => ?_) (Keqa fun a6093 => ?_))
      · refine lv_if_ne (tgt := 30) hx hb gX12_taken_1.2.2.1 (by decide) (fun _ => ?_) (fun c9 => absurd c9 (by decide))
        obtain ⟨jt, hjt, rfl⟩ := Wi_nat (N := 3) (by decide) a6037
        refine lv_aload_n hx hb gX12_taken_1.2.2.2.2.2.1 rfl (lv_at0 hl) ?_
        refine gf_X12_72 hC rfl hK hP 0 rfl rfl gX12_taken_1.2.2.2.2.2.2.1 ?_
        refine lv_iload_n hx hb gX12_taken_1.2.2.2.2.2.2.2.1 rfl (lv_at1 hl) ?_
        refine aldN hC hK hP 2 rfl (k := jt) (by omega) (Nat.le_of_ble_eq_true rfl) (v := fnsh jt) rfl gX12_taken_1.2.2.2.2.2.2.2.2.1 ?_
        refine lv_iconst (v := 4) hx hb gX12_taken_1.2.2.2.2.2.2.2.2.2 (by decide) ?_
        refine lv_icmp_ne (tgt := 65) hx hb gX12_taken_2.1 (by decide) (fun c_37_6094 => ?_) (fun c_37_6094 => ?_)
        · refine lv_aload_n hx hb gX12_taken_3.2.2.2.2.2.2.1 rfl (lv_at0 hl) ?_
          refine lv_iload_n hx hb gX12_taken_3.2.2.2.2.2.2.2.1 rfl (lv_at1 hl) ?_
          refine pV hC hK hl hP hD (m_kindOnX l G kq k8 k9 h0 jt nw nk mhasKept nt mtaped nr mrowMany mroundOf mroundFrom mouts nm mfromHour mtoHour ns mfrom mto msort misFault mdeep mcoded mlines nl nc nF np ntr nb mbestCost nso nsi nit nsh nsf nss nrc mtraced mdealer mnumber mwhose msize misParted fnw fnsh fnsf (by omega) (ekq) (hkq) (ek8) (hk8) (ek9) (hk9) (hN)) si_X12_345 [0, 1, 2, 3] sm_0_1_2_3 fm_0_1_2_3 nd_0_1_2_3 rfl rfl rfl rfl rfl (Nat.le_of_ble_eq_true rfl) rm_4_3_4 ⟨by first | exact Nat.le_of_ble_eq_true rfl | exact Nat.zero_le _, by first | exact Nat.le_of_ble_eq_true rfl | exact Nat.zero_le _⟩ gX12_taken_3.2.2.2.2.2.2.2.2.1 (Kors (Keqa fun a6096 => ?_) (Kors (Keqa fun a6096 => ?_) (Kors (Keqa fun a6096 => ?_) (Kors (Keqa fun a6096 => ?_) (Kors (Keqa fun a6096 => ?_) (Kors (Keqa fun a6096 => ?_) (Keqa fun a6096 => ?_)))))))
          · refine lv_istore_n (lv' := [(3, .int (-1)), (0, .ref h0), (1, .int (nI jt)), (2, .int x2)]) hx hb gX12_taken_3.2.2.2.2.2.2.2.2.2 rfl hl (by decide) rfl (fun ls hl => ?_)
            refine lv_iload_n hx hb gX12_taken_4.1 rfl (lv_at0 hl) ?_
            refine lv_if_ge (tgt := 78) hx hb gX12_taken_4.2.1 (by decide) (fun c9 => absurd c9 (by decide)) (fun _ => ?_)
            refine lv_bipush (v := (-11)) hx hb gX12_taken_4.2.2.1 (by decide) ?_
            refine toQ hQ0 ?_
            exact RP (v := (-11)) hC ((by first | rfl | (simp only [nI_clamp (n := jt) (by omega), ifc_t ekq, ifc_t hkq, ifc_t ek8, ifc_t hk8, ifc_t ek9, ifc_t hk9, ifc_t hN, ifc_t a6037, ifc_f a6039, ifc_t a6093, ifc_f c_37_6094, ifc_t (q := Wi x2 0 6 ∨ Wi x2 10 14) (Or.inr a6093), a6096, ifc_t (q := (-1 : Int32) < 0) (by decide)]; done) | (simp only [nI_clamp (n := jt) (by omega), ifc_t ekq, ifc_t hkq, ifc_t ek8, ifc_t hk8, ifc_t ek9, ifc_t hk9, ifc_t hN, ifc_t a6037, ifc_f a6039, ifc_t a6093, ifc_f c_37_6094, ifc_t (q := Wi x2 0 6 ∨ Wi x2 10 14) (Or.inr a6093), a6096, ifc_t (q := (-1 : Int32) < 0) (by decide)]; rfl))) rfl gX12_taken_4.2.2.2.1
          · refine lv_istore_n (lv' := [(3, .int 1), (0, .ref h0), (1, .int (nI jt)), (2, .int x2)]) hx hb gX12_taken_3.2.2.2.2.2.2.2.2.2 rfl hl (by decide) rfl (fun ls hl => ?_)
            refine lv_iload_n hx hb gX12_taken_4.1 rfl (lv_at0 hl) ?_
            refine lv_if_ge (tgt := 78) hx hb gX12_taken_4.2.1 (by decide) (fun _ => ?_) (fun c9 => absurd (by decide) c9)
            refine lv_iload_n hx hb gX12_taken_4.2.2.2.2.1 rfl (lv_at0 hl) ?_
            refine lv_if_lt (tgt := 95) hx hb gX12_taken_4.2.2.2.2.2.1 (by decide) (fun c9 => absurd c9 (by decide)) (fun _ => ?_)
            refine lv_iload_n hx hb gX12_taken_4.2.2.2.2.2.2.1 rfl (lv_at0 hl) ?_
            refine lv_iload_n hx hb gX12_taken_4.2.2.2.2.2.2.2.1 rfl (lv_at3 hl) ?_
            refine lv_icmp_eq (tgt := 95) hx hb gX12_taken_4.2.2.2.2.2.2.2.2.1 (by decide) (fun c_84_6097 => ?_) (fun c_84_6097 => ?_)
            · refine lv_iload_n hx hb gX12_taken_5.2.2.2.1 rfl (lv_at0 hl) ?_
              refine lv_iload_n hx hb gX12_taken_5.2.2.2.2.1 rfl (lv_at3 hl) ?_
              refine lv_icmp_ne (tgt := 109) hx hb gX12_taken_5.2.2.2.2.2.1 (by decide) (fun c9 => absurd (c_84_6097) c9) (fun _ => ?_)
              refine lv_aload_n hx hb gX12_taken_5.2.2.2.2.2.2.1 rfl (lv_at1 hl) ?_
              refine gf_X12_75 hC rfl hK hP 0 rfl rfl gX12_taken_5.2.2.2.2.2.2.2.1 ?_
              refine lv_iload_n hx hb gX12_taken_5.2.2.2.2.2.2.2.2.1 rfl (lv_at2 hl) ?_
              refine aldN hC hK hP 3 rfl (k := jt) (by omega) (Nat.le_of_ble_eq_true rfl) (v := fnsf jt) rfl gX12_taken_5.2.2.2.2.2.2.2.2.2 ?_
              refine lv_goto (tgt := 111) hx hb gX12_taken_6.1 (by decide) ?_
              refine toQ hQ0 ?_
              exact RP (v := fnsf jt) hC ((by first | rfl | (simp only [nI_clamp (n := jt) (by omega), ifc_t ekq, ifc_t hkq, ifc_t ek8, ifc_t hk8, ifc_t ek9, ifc_t hk9, ifc_t hN, ifc_t a6037, ifc_f a6039, ifc_t a6093, ifc_f c_37_6094, ifc_t c_84_6097, ifc_t (q := Wi x2 0 6 ∨ Wi x2 10 14) (Or.inr a6093), a6096, ifc_f (q := (1 : Int32) < 0) (by decide), ifc_t (q := UNl (1 : Int32).toNatClampNeg x2) (show UNl 1 x2 from Or.inl (c_84_6097.symm))]; done) | (simp only [nI_clamp (n := jt) (by omega), ifc_t ekq, ifc_t hkq, ifc_t ek8, ifc_t hk8, ifc_t ek9, ifc_t hk9, ifc_t hN, ifc_t a6037, ifc_f a6039, ifc_t a6093, ifc_f c_37_6094, ifc_t c_84_6097, ifc_t (q := Wi x2 0 6 ∨ Wi x2 10 14) (Or.inr a6093), a6096, ifc_f (q := (1 : Int32) < 0) (by decide), ifc_t (q := UNl (1 : Int32).toNatClampNeg x2) (show UNl 1 x2 from Or.inl (c_84_6097.symm))]; rfl))) rfl gX12_taken_6.2.2
            · refine lv_iload_n hx hb gX12_taken_4.2.2.2.2.2.2.2.2.2 rfl (lv_at0 hl) ?_
              refine pS hC hK hl (m_above1 l G) si_X12_348 rfl rfl (Nat.le_of_ble_eq_true rfl) rm_4_1_1 ⟨by first | exact Nat.le_of_ble_eq_true rfl | exact Nat.zero_le _, by first | exact Nat.le_of_ble_eq_true rfl | exact Nat.zero_le _⟩ gX12_taken_5.1 (Keqr ?_)
              refine lv_istore_n (lv' := [(3, .int 0), (0, .ref h0), (1, .int (nI jt)), (2, .int x2)]) hx hb gX12_taken_5.2.1 rfl hl (by decide) rfl (fun ls hl => ?_)
              refine lv_goto (tgt := 78) hx hb gX12_taken_5.2.2.1 (by decide) ?_
              refine lv_iload_n hx hb gX12_taken_4.2.2.2.2.1 rfl (lv_at0 hl) ?_
              refine lv_if_lt (tgt := 95) hx hb gX12_taken_4.2.2.2.2.2.1 (by decide) (fun c9 => absurd c9 (by decide)) (fun _ => ?_)
              refine lv_iload_n hx hb gX12_taken_4.2.2.2.2.2.2.1 rfl (lv_at0 hl) ?_
              refine lv_iload_n hx hb gX12_taken_4.2.2.2.2.2.2.2.1 rfl (lv_at3 hl) ?_
              refine lv_icmp_eq (tgt := 95) hx hb gX12_taken_4.2.2.2.2.2.2.2.2.1 (by decide) (fun c_84_6100 => ?_) (fun c_84_6100 => ?_)
              · refine lv_iload_n hx hb gX12_taken_5.2.2.2.1 rfl (lv_at0 hl) ?_
                refine lv_iload_n hx hb gX12_taken_5.2.2.2.2.1 rfl (lv_at3 hl) ?_
                refine lv_icmp_ne (tgt := 109) hx hb gX12_taken_5.2.2.2.2.2.1 (by decide) (fun c9 => absurd (c_84_6100) c9) (fun _ => ?_)
                refine lv_aload_n hx hb gX12_taken_5.2.2.2.2.2.2.1 rfl (lv_at1 hl) ?_
                refine gf_X12_75 hC rfl hK hP 0 rfl rfl gX12_taken_5.2.2.2.2.2.2.2.1 ?_
                refine lv_iload_n hx hb gX12_taken_5.2.2.2.2.2.2.2.2.1 rfl (lv_at2 hl) ?_
                refine aldN hC hK hP 3 rfl (k := jt) (by omega) (Nat.le_of_ble_eq_true rfl) (v := fnsf jt) rfl gX12_taken_5.2.2.2.2.2.2.2.2.2 ?_
                refine lv_goto (tgt := 111) hx hb gX12_taken_6.1 (by decide) ?_
                refine toQ hQ0 ?_
                exact RP (v := fnsf jt) hC ((by first | rfl | (simp only [nI_clamp (n := jt) (by omega), ifc_t ekq, ifc_t hkq, ifc_t ek8, ifc_t hk8, ifc_t ek9, ifc_t hk9, ifc_t hN, ifc_t a6037, ifc_f a6039, ifc_t a6093, ifc_f c_37_6094, ifc_f c_84_6097, ifc_t c_84_6100, ifc_t (q := Wi x2 0 6 ∨ Wi x2 10 14) (Or.inr a6093), a6096, ifc_f (q := (1 : Int32) < 0) (by decide), ifc_t (q := UNl (1 : Int32).toNatClampNeg x2) (show UNl 1 x2 from Or.inr (c_84_6100.symm))]; done) | (simp only [nI_clamp (n := jt) (by omega), ifc_t ekq, ifc_t hkq, ifc_t ek8, ifc_t hk8, ifc_t ek9, ifc_t hk9, ifc_t hN, ifc_t a6037, ifc_f a6039, ifc_t a6093, ifc_f c_37_6094, ifc_f c_84_6097, ifc_t c_84_6100, ifc_t (q := Wi x2 0 6 ∨ Wi x2 10 14) (Or.inr a6093), a6096, ifc_f (q := (1 : Int32) < 0) (by decide), ifc_t (q := UNl (1 : Int32).toNatClampNeg x2) (show UNl 1 x2 from Or.inr (c_84_6100.symm))]; rfl))) rfl gX12_taken_6.2.2
              · refine lv_iload_n hx hb gX12_taken_4.2.2.2.2.2.2.2.2.2 rfl (lv_at0 hl) ?_
                refine pS hC hK hl (m_above0 l G) si_X12_348 rfl rfl (Nat.le_of_ble_eq_true rfl) rm_4_1_1 ⟨by first | exact Nat.le_of_ble_eq_true rfl | exact Nat.zero_le _, by first | exact Nat.le_of_ble_eq_true rfl | exact Nat.zero_le _⟩ gX12_taken_5.1 (Keqr ?_)
                refine lv_istore_n (lv' := [(3, .int (-1)), (0, .ref h0), (1, .int (nI jt)), (2, .int x2)]) hx hb gX12_taken_5.2.1 rfl hl (by decide) rfl (fun ls hl => ?_)
                refine lv_goto (tgt := 78) hx hb gX12_taken_5.2.2.1 (by decide) ?_
                refine lv_iload_n hx hb gX12_taken_4.2.2.2.2.1 rfl (lv_at0 hl) ?_
                refine lv_if_lt (tgt := 95) hx hb gX12_taken_4.2.2.2.2.2.1 (by decide) (fun _ => ?_) (fun c9 => absurd (by decide) c9)
                refine lv_iload_n hx hb gX12_taken_5.2.2.2.1 rfl (lv_at0 hl) ?_
                refine lv_iload_n hx hb gX12_taken_5.2.2.2.2.1 rfl (lv_at3 hl) ?_
                refine lv_icmp_ne (tgt := 109) hx hb gX12_taken_5.2.2.2.2.2.1 (by decide) (fun c_97_6103 => ?_) (fun c_97_6103 => ?_)
                · refine lv_bipush (v := (-13)) hx hb gX12_taken_6.2.1 (by decide) ?_
                  refine toQ hQ0 ?_
                  exact RP (v := (-13)) hC ((by first | rfl | (simp only [nI_clamp (n := jt) (by omega), ifc_t ekq, ifc_t hkq, ifc_t ek8, ifc_t hk8, ifc_t ek9, ifc_t hk9, ifc_t hN, ifc_t a6037, ifc_f a6039, ifc_t a6093, ifc_f c_37_6094, ifc_f c_84_6097, ifc_f c_84_6100, ifc_f c_97_6103, ifc_t (q := Wi x2 0 6 ∨ Wi x2 10 14) (Or.inr a6093), a6096, ifc_f (q := (1 : Int32) < 0) (by decide), ifc_f (q := UNl (1 : Int32).toNatClampNeg x2) (fun h9 => (show False from by have h7 : x2 = 1 ∨ x2 = 0 := h9; rcases h7 with h8 | h8 <;> (first | exact c_84_6097 h8.symm | exact c_84_6100 h8.symm)))]; done) | (simp only [nI_clamp (n := jt) (by omega), ifc_t ekq, ifc_t hkq, ifc_t ek8, ifc_t hk8, ifc_t ek9, ifc_t hk9, ifc_t hN, ifc_t a6037, ifc_f a6039, ifc_t a6093, ifc_f c_37_6094, ifc_f c_84_6097, ifc_f c_84_6100, ifc_f c_97_6103, ifc_t (q := Wi x2 0 6 ∨ Wi x2 10 14) (Or.inr a6093), a6096, ifc_f (q := (1 : Int32) < 0) (by decide), ifc_f (q := UNl (1 : Int32).toNatClampNeg x2) (fun h9 => (show False from by have h7 : x2 = 1 ∨ x2 = 0 := h9; rcases h7 with h8 | h8 <;> (first | exact c_84_6097 h8.symm | exact c_84_6100 h8.symm)))]; rfl))) rfl gX12_taken_6.2.2
                · refine lv_aload_n hx hb gX12_taken_5.2.2.2.2.2.2.1 rfl (lv_at1 hl) ?_
                  refine gf_X12_75 hC rfl hK hP 0 rfl rfl gX12_taken_5.2.2.2.2.2.2.2.1 ?_
                  refine lv_iload_n hx hb gX12_taken_5.2.2.2.2.2.2.2.2.1 rfl (lv_at2 hl) ?_
                  refine aldN hC hK hP 3 rfl (k := jt) (by omega) (Nat.le_of_ble_eq_true rfl) (v := fnsf jt) rfl gX12_taken_5.2.2.2.2.2.2.2.2.2 ?_
                  refine lv_goto (tgt := 111) hx hb gX12_taken_6.1 (by decide) ?_
                  refine toQ hQ0 ?_
                  exact RP (v := fnsf jt) hC ((absurd a6093 (by rw [← c_97_6103]; unfold Wi; decide))) rfl gX12_taken_6.2.2
          · refine lv_istore_n (lv' := [(3, .int 2), (0, .ref h0), (1, .int (nI jt)), (2, .int x2)]) hx hb gX12_taken_3.2.2.2.2.2.2.2.2.2 rfl hl (by decide) rfl (fun ls hl => ?_)
            refine lv_iload_n hx hb gX12_taken_4.1 rfl (lv_at0 hl) ?_
            refine lv_if_ge (tgt := 78) hx hb gX12_taken_4.2.1 (by decide) (fun _ => ?_) (fun c9 => absurd (by decide) c9)
            refine lv_iload_n hx hb gX12_taken_4.2.2.2.2.1 rfl (lv_at0 hl) ?_
            refine lv_if_lt (tgt := 95) hx hb gX12_taken_4.2.2.2.2.2.1 (by decide) (fun c9 => absurd c9 (by decide)) (fun _ => ?_)
            refine lv_iload_n hx hb gX12_taken_4.2.2.2.2.2.2.1 rfl (lv_at0 hl) ?_
            refine lv_iload_n hx hb gX12_taken_4.2.2.2.2.2.2.2.1 rfl (lv_at3 hl) ?_
            refine lv_icmp_eq (tgt := 95) hx hb gX12_taken_4.2.2.2.2.2.2.2.2.1 (by decide) (fun c_84_6104 => ?_) (fun c_84_6104 => ?_)
            · refine lv_iload_n hx hb gX12_taken_5.2.2.2.1 rfl (lv_at0 hl) ?_
              refine lv_iload_n hx hb gX12_taken_5.2.2.2.2.1 rfl (lv_at3 hl) ?_
              refine lv_icmp_ne (tgt := 109) hx hb gX12_taken_5.2.2.2.2.2.1 (by decide) (fun c9 => absurd (c_84_6104) c9) (fun _ => ?_)
              refine lv_aload_n hx hb gX12_taken_5.2.2.2.2.2.2.1 rfl (lv_at1 hl) ?_
              refine gf_X12_75 hC rfl hK hP 0 rfl rfl gX12_taken_5.2.2.2.2.2.2.2.1 ?_
              refine lv_iload_n hx hb gX12_taken_5.2.2.2.2.2.2.2.2.1 rfl (lv_at2 hl) ?_
              refine aldN hC hK hP 3 rfl (k := jt) (by omega) (Nat.le_of_ble_eq_true rfl) (v := fnsf jt) rfl gX12_taken_5.2.2.2.2.2.2.2.2.2 ?_
              refine lv_goto (tgt := 111) hx hb gX12_taken_6.1 (by decide) ?_
              refine toQ hQ0 ?_
              exact RP (v := fnsf jt) hC ((by first | rfl | (simp only [nI_clamp (n := jt) (by omega), ifc_t ekq, ifc_t hkq, ifc_t ek8, ifc_t hk8, ifc_t ek9, ifc_t hk9, ifc_t hN, ifc_t a6037, ifc_f a6039, ifc_t a6093, ifc_f c_37_6094, ifc_t c_84_6104, ifc_t (q := Wi x2 0 6 ∨ Wi x2 10 14) (Or.inr a6093), a6096, ifc_f (q := (2 : Int32) < 0) (by decide), ifc_t (q := UNl (2 : Int32).toNatClampNeg x2) (show UNl 2 x2 from Or.inl (c_84_6104.symm))]; done) | (simp only [nI_clamp (n := jt) (by omega), ifc_t ekq, ifc_t hkq, ifc_t ek8, ifc_t hk8, ifc_t ek9, ifc_t hk9, ifc_t hN, ifc_t a6037, ifc_f a6039, ifc_t a6093, ifc_f c_37_6094, ifc_t c_84_6104, ifc_t (q := Wi x2 0 6 ∨ Wi x2 10 14) (Or.inr a6093), a6096, ifc_f (q := (2 : Int32) < 0) (by decide), ifc_t (q := UNl (2 : Int32).toNatClampNeg x2) (show UNl 2 x2 from Or.inl (c_84_6104.symm))]; rfl))) rfl gX12_taken_6.2.2
            · refine lv_iload_n hx hb gX12_taken_4.2.2.2.2.2.2.2.2.2 rfl (lv_at0 hl) ?_
              refine pS hC hK hl (m_above2 l G) si_X12_348 rfl rfl (Nat.le_of_ble_eq_true rfl) rm_4_1_1 ⟨by first | exact Nat.le_of_ble_eq_true rfl | exact Nat.zero_le _, by first | exact Nat.le_of_ble_eq_true rfl | exact Nat.zero_le _⟩ gX12_taken_5.1 (Keqr ?_)
              refine lv_istore_n (lv' := [(3, .int 0), (0, .ref h0), (1, .int (nI jt)), (2, .int x2)]) hx hb gX12_taken_5.2.1 rfl hl (by decide) rfl (fun ls hl => ?_)
              refine lv_goto (tgt := 78) hx hb gX12_taken_5.2.2.1 (by decide) ?_
              refine lv_iload_n hx hb gX12_taken_4.2.2.2.2.1 rfl (lv_at0 hl) ?_
              refine lv_if_lt (tgt := 95) hx hb gX12_taken_4.2.2.2.2.2.1 (by decide) (fun c9 => absurd c9 (by decide)) (fun _ => ?_)
              refine lv_iload_n hx hb gX12_taken_4.2.2.2.2.2.2.1 rfl (lv_at0 hl) ?_
              refine lv_iload_n hx hb gX12_taken_4.2.2.2.2.2.2.2.1 rfl (lv_at3 hl) ?_
              refine lv_icmp_eq (tgt := 95) hx hb gX12_taken_4.2.2.2.2.2.2.2.2.1 (by decide) (fun c_84_6107 => ?_) (fun c_84_6107 => ?_)
              · refine lv_iload_n hx hb gX12_taken_5.2.2.2.1 rfl (lv_at0 hl) ?_
                refine lv_iload_n hx hb gX12_taken_5.2.2.2.2.1 rfl (lv_at3 hl) ?_
                refine lv_icmp_ne (tgt := 109) hx hb gX12_taken_5.2.2.2.2.2.1 (by decide) (fun c9 => absurd (c_84_6107) c9) (fun _ => ?_)
                refine lv_aload_n hx hb gX12_taken_5.2.2.2.2.2.2.1 rfl (lv_at1 hl) ?_
                refine gf_X12_75 hC rfl hK hP 0 rfl rfl gX12_taken_5.2.2.2.2.2.2.2.1 ?_
                refine lv_iload_n hx hb gX12_taken_5.2.2.2.2.2.2.2.2.1 rfl (lv_at2 hl) ?_
                refine aldN hC hK hP 3 rfl (k := jt) (by omega) (Nat.le_of_ble_eq_true rfl) (v := fnsf jt) rfl gX12_taken_5.2.2.2.2.2.2.2.2.2 ?_
                refine lv_goto (tgt := 111) hx hb gX12_taken_6.1 (by decide) ?_
                refine toQ hQ0 ?_
                exact RP (v := fnsf jt) hC ((by first | rfl | (simp only [nI_clamp (n := jt) (by omega), ifc_t ekq, ifc_t hkq, ifc_t ek8, ifc_t hk8, ifc_t ek9, ifc_t hk9, ifc_t hN, ifc_t a6037, ifc_f a6039, ifc_t a6093, ifc_f c_37_6094, ifc_f c_84_6104, ifc_t c_84_6107, ifc_t (q := Wi x2 0 6 ∨ Wi x2 10 14) (Or.inr a6093), a6096, ifc_f (q := (2 : Int32) < 0) (by decide), ifc_t (q := UNl (2 : Int32).toNatClampNeg x2) (show UNl 2 x2 from Or.inr (c_84_6107.symm))]; done) | (simp only [nI_clamp (n := jt) (by omega), ifc_t ekq, ifc_t hkq, ifc_t ek8, ifc_t hk8, ifc_t ek9, ifc_t hk9, ifc_t hN, ifc_t a6037, ifc_f a6039, ifc_t a6093, ifc_f c_37_6094, ifc_f c_84_6104, ifc_t c_84_6107, ifc_t (q := Wi x2 0 6 ∨ Wi x2 10 14) (Or.inr a6093), a6096, ifc_f (q := (2 : Int32) < 0) (by decide), ifc_t (q := UNl (2 : Int32).toNatClampNeg x2) (show UNl 2 x2 from Or.inr (c_84_6107.symm))]; rfl))) rfl gX12_taken_6.2.2
              · refine lv_iload_n hx hb gX12_taken_4.2.2.2.2.2.2.2.2.2 rfl (lv_at0 hl) ?_
                refine pS hC hK hl (m_above0 l G) si_X12_348 rfl rfl (Nat.le_of_ble_eq_true rfl) rm_4_1_1 ⟨by first | exact Nat.le_of_ble_eq_true rfl | exact Nat.zero_le _, by first | exact Nat.le_of_ble_eq_true rfl | exact Nat.zero_le _⟩ gX12_taken_5.1 (Keqr ?_)
                refine lv_istore_n (lv' := [(3, .int (-1)), (0, .ref h0), (1, .int (nI jt)), (2, .int x2)]) hx hb gX12_taken_5.2.1 rfl hl (by decide) rfl (fun ls hl => ?_)
                refine lv_goto (tgt := 78) hx hb gX12_taken_5.2.2.1 (by decide) ?_
                refine lv_iload_n hx hb gX12_taken_4.2.2.2.2.1 rfl (lv_at0 hl) ?_
                refine lv_if_lt (tgt := 95) hx hb gX12_taken_4.2.2.2.2.2.1 (by decide) (fun _ => ?_) (fun c9 => absurd (by decide) c9)
                refine lv_iload_n hx hb gX12_taken_5.2.2.2.1 rfl (lv_at0 hl) ?_
                refine lv_iload_n hx hb gX12_taken_5.2.2.2.2.1 rfl (lv_at3 hl) ?_
                refine lv_icmp_ne (tgt := 109) hx hb gX12_taken_5.2.2.2.2.2.1 (by decide) (fun c_97_6110 => ?_) (fun c_97_6110 => ?_)
                · refine lv_bipush (v := (-13)) hx hb gX12_taken_6.2.1 (by decide) ?_
                  refine toQ hQ0 ?_
                  exact RP (v := (-13)) hC ((by first | rfl | (simp only [nI_clamp (n := jt) (by omega), ifc_t ekq, ifc_t hkq, ifc_t ek8, ifc_t hk8, ifc_t ek9, ifc_t hk9, ifc_t hN, ifc_t a6037, ifc_f a6039, ifc_t a6093, ifc_f c_37_6094, ifc_f c_84_6104, ifc_f c_84_6107, ifc_f c_97_6110, ifc_t (q := Wi x2 0 6 ∨ Wi x2 10 14) (Or.inr a6093), a6096, ifc_f (q := (2 : Int32) < 0) (by decide), ifc_f (q := UNl (2 : Int32).toNatClampNeg x2) (fun h9 => (show False from by have h7 : x2 = 2 ∨ x2 = 0 := h9; rcases h7 with h8 | h8 <;> (first | exact c_84_6104 h8.symm | exact c_84_6107 h8.symm)))]; done) | (simp only [nI_clamp (n := jt) (by omega), ifc_t ekq, ifc_t hkq, ifc_t ek8, ifc_t hk8, ifc_t ek9, ifc_t hk9, ifc_t hN, ifc_t a6037, ifc_f a6039, ifc_t a6093, ifc_f c_37_6094, ifc_f c_84_6104, ifc_f c_84_6107, ifc_f c_97_6110, ifc_t (q := Wi x2 0 6 ∨ Wi x2 10 14) (Or.inr a6093), a6096, ifc_f (q := (2 : Int32) < 0) (by decide), ifc_f (q := UNl (2 : Int32).toNatClampNeg x2) (fun h9 => (show False from by have h7 : x2 = 2 ∨ x2 = 0 := h9; rcases h7 with h8 | h8 <;> (first | exact c_84_6104 h8.symm | exact c_84_6107 h8.symm)))]; rfl))) rfl gX12_taken_6.2.2
                · refine lv_aload_n hx hb gX12_taken_5.2.2.2.2.2.2.1 rfl (lv_at1 hl) ?_
                  refine gf_X12_75 hC rfl hK hP 0 rfl rfl gX12_taken_5.2.2.2.2.2.2.2.1 ?_
                  refine lv_iload_n hx hb gX12_taken_5.2.2.2.2.2.2.2.2.1 rfl (lv_at2 hl) ?_
                  refine aldN hC hK hP 3 rfl (k := jt) (by omega) (Nat.le_of_ble_eq_true rfl) (v := fnsf jt) rfl gX12_taken_5.2.2.2.2.2.2.2.2.2 ?_
                  refine lv_goto (tgt := 111) hx hb gX12_taken_6.1 (by decide) ?_
                  refine toQ hQ0 ?_
                  exact RP (v := fnsf jt) hC ((absurd a6093 (by rw [← c_97_6110]; unfold Wi; decide))) rfl gX12_taken_6.2.2
          · refine lv_istore_n (lv' := [(3, .int 3), (0, .ref h0), (1, .int (nI jt)), (2, .int x2)]) hx hb gX12_taken_3.2.2.2.2.2.2.2.2.2 rfl hl (by decide) rfl (fun ls hl => ?_)
            refine lv_iload_n hx hb gX12_taken_4.1 rfl (lv_at0 hl) ?_
            refine lv_if_ge (tgt := 78) hx hb gX12_taken_4.2.1 (by decide) (fun _ => ?_) (fun c9 => absurd (by decide) c9)
            refine lv_iload_n hx hb gX12_taken_4.2.2.2.2.1 rfl (lv_at0 hl) ?_
            refine lv_if_lt (tgt := 95) hx hb gX12_taken_4.2.2.2.2.2.1 (by decide) (fun c9 => absurd c9 (by decide)) (fun _ => ?_)
            refine lv_iload_n hx hb gX12_taken_4.2.2.2.2.2.2.1 rfl (lv_at0 hl) ?_
            refine lv_iload_n hx hb gX12_taken_4.2.2.2.2.2.2.2.1 rfl (lv_at3 hl) ?_
            refine lv_icmp_eq (tgt := 95) hx hb gX12_taken_4.2.2.2.2.2.2.2.2.1 (by decide) (fun c_84_6111 => ?_) (fun c_84_6111 => ?_)
            · refine lv_iload_n hx hb gX12_taken_5.2.2.2.1 rfl (lv_at0 hl) ?_
              refine lv_iload_n hx hb gX12_taken_5.2.2.2.2.1 rfl (lv_at3 hl) ?_
              refine lv_icmp_ne (tgt := 109) hx hb gX12_taken_5.2.2.2.2.2.1 (by decide) (fun c9 => absurd (c_84_6111) c9) (fun _ => ?_)
              refine lv_aload_n hx hb gX12_taken_5.2.2.2.2.2.2.1 rfl (lv_at1 hl) ?_
              refine gf_X12_75 hC rfl hK hP 0 rfl rfl gX12_taken_5.2.2.2.2.2.2.2.1 ?_
              refine lv_iload_n hx hb gX12_taken_5.2.2.2.2.2.2.2.2.1 rfl (lv_at2 hl) ?_
              refine aldN hC hK hP 3 rfl (k := jt) (by omega) (Nat.le_of_ble_eq_true rfl) (v := fnsf jt) rfl gX12_taken_5.2.2.2.2.2.2.2.2.2 ?_
              refine lv_goto (tgt := 111) hx hb gX12_taken_6.1 (by decide) ?_
              refine toQ hQ0 ?_
              exact RP (v := fnsf jt) hC ((by first | rfl | (simp only [nI_clamp (n := jt) (by omega), ifc_t ekq, ifc_t hkq, ifc_t ek8, ifc_t hk8, ifc_t ek9, ifc_t hk9, ifc_t hN, ifc_t a6037, ifc_f a6039, ifc_t a6093, ifc_f c_37_6094, ifc_t c_84_6111, ifc_t (q := Wi x2 0 6 ∨ Wi x2 10 14) (Or.inr a6093), a6096, ifc_f (q := (3 : Int32) < 0) (by decide), ifc_t (q := UNl (3 : Int32).toNatClampNeg x2) (show UNl 3 x2 from Or.inl (c_84_6111.symm))]; done) | (simp only [nI_clamp (n := jt) (by omega), ifc_t ekq, ifc_t hkq, ifc_t ek8, ifc_t hk8, ifc_t ek9, ifc_t hk9, ifc_t hN, ifc_t a6037, ifc_f a6039, ifc_t a6093, ifc_f c_37_6094, ifc_t c_84_6111, ifc_t (q := Wi x2 0 6 ∨ Wi x2 10 14) (Or.inr a6093), a6096, ifc_f (q := (3 : Int32) < 0) (by decide), ifc_t (q := UNl (3 : Int32).toNatClampNeg x2) (show UNl 3 x2 from Or.inl (c_84_6111.symm))]; rfl))) rfl gX12_taken_6.2.2
            · refine lv_iload_n hx hb gX12_taken_4.2.2.2.2.2.2.2.2.2 rfl (lv_at0 hl) ?_
              refine pS hC hK hl (m_above3 l G) si_X12_348 rfl rfl (Nat.le_of_ble_eq_true rfl) rm_4_1_1 ⟨by first | exact Nat.le_of_ble_eq_true rfl | exact Nat.zero_le _, by first | exact Nat.le_of_ble_eq_true rfl | exact Nat.zero_le _⟩ gX12_taken_5.1 (Keqr ?_)
              refine lv_istore_n (lv' := [(3, .int 1), (0, .ref h0), (1, .int (nI jt)), (2, .int x2)]) hx hb gX12_taken_5.2.1 rfl hl (by decide) rfl (fun ls hl => ?_)
              refine lv_goto (tgt := 78) hx hb gX12_taken_5.2.2.1 (by decide) ?_
              refine lv_iload_n hx hb gX12_taken_4.2.2.2.2.1 rfl (lv_at0 hl) ?_
              refine lv_if_lt (tgt := 95) hx hb gX12_taken_4.2.2.2.2.2.1 (by decide) (fun c9 => absurd c9 (by decide)) (fun _ => ?_)
              refine lv_iload_n hx hb gX12_taken_4.2.2.2.2.2.2.1 rfl (lv_at0 hl) ?_
              refine lv_iload_n hx hb gX12_taken_4.2.2.2.2.2.2.2.1 rfl (lv_at3 hl) ?_
              refine lv_icmp_eq (tgt := 95) hx hb gX12_taken_4.2.2.2.2.2.2.2.2.1 (by decide) (fun c_84_6114 => ?_) (fun c_84_6114 => ?_)
              · refine lv_iload_n hx hb gX12_taken_5.2.2.2.1 rfl (lv_at0 hl) ?_
                refine lv_iload_n hx hb gX12_taken_5.2.2.2.2.1 rfl (lv_at3 hl) ?_
                refine lv_icmp_ne (tgt := 109) hx hb gX12_taken_5.2.2.2.2.2.1 (by decide) (fun c9 => absurd (c_84_6114) c9) (fun _ => ?_)
                refine lv_aload_n hx hb gX12_taken_5.2.2.2.2.2.2.1 rfl (lv_at1 hl) ?_
                refine gf_X12_75 hC rfl hK hP 0 rfl rfl gX12_taken_5.2.2.2.2.2.2.2.1 ?_
                refine lv_iload_n hx hb gX12_taken_5.2.2.2.2.2.2.2.2.1 rfl (lv_at2 hl) ?_
                refine aldN hC hK hP 3 rfl (k := jt) (by omega) (Nat.le_of_ble_eq_true rfl) (v := fnsf jt) rfl gX12_taken_5.2.2.2.2.2.2.2.2.2 ?_
                refine lv_goto (tgt := 111) hx hb gX12_taken_6.1 (by decide) ?_
                refine toQ hQ0 ?_
                exact RP (v := fnsf jt) hC ((by first | rfl | (simp only [nI_clamp (n := jt) (by omega), ifc_t ekq, ifc_t hkq, ifc_t ek8, ifc_t hk8, ifc_t ek9, ifc_t hk9, ifc_t hN, ifc_t a6037, ifc_f a6039, ifc_t a6093, ifc_f c_37_6094, ifc_f c_84_6111, ifc_t c_84_6114, ifc_t (q := Wi x2 0 6 ∨ Wi x2 10 14) (Or.inr a6093), a6096, ifc_f (q := (3 : Int32) < 0) (by decide), ifc_t (q := UNl (3 : Int32).toNatClampNeg x2) (show UNl 3 x2 from Or.inr (Or.inl (c_84_6114.symm)))]; done) | (simp only [nI_clamp (n := jt) (by omega), ifc_t ekq, ifc_t hkq, ifc_t ek8, ifc_t hk8, ifc_t ek9, ifc_t hk9, ifc_t hN, ifc_t a6037, ifc_f a6039, ifc_t a6093, ifc_f c_37_6094, ifc_f c_84_6111, ifc_t c_84_6114, ifc_t (q := Wi x2 0 6 ∨ Wi x2 10 14) (Or.inr a6093), a6096, ifc_f (q := (3 : Int32) < 0) (by decide), ifc_t (q := UNl (3 : Int32).toNatClampNeg x2) (show UNl 3 x2 from Or.inr (Or.inl (c_84_6114.symm)))]; rfl))) rfl gX12_taken_6.2.2
              · refine lv_iload_n hx hb gX12_taken_4.2.2.2.2.2.2.2.2.2 rfl (lv_at0 hl) ?_
                refine pS hC hK hl (m_above1 l G) si_X12_348 rfl rfl (Nat.le_of_ble_eq_true rfl) rm_4_1_1 ⟨by first | exact Nat.le_of_ble_eq_true rfl | exact Nat.zero_le _, by first | exact Nat.le_of_ble_eq_true rfl | exact Nat.zero_le _⟩ gX12_taken_5.1 (Keqr ?_)
                refine lv_istore_n (lv' := [(3, .int 0), (0, .ref h0), (1, .int (nI jt)), (2, .int x2)]) hx hb gX12_taken_5.2.1 rfl hl (by decide) rfl (fun ls hl => ?_)
                refine lv_goto (tgt := 78) hx hb gX12_taken_5.2.2.1 (by decide) ?_
                refine lv_iload_n hx hb gX12_taken_4.2.2.2.2.1 rfl (lv_at0 hl) ?_
                refine lv_if_lt (tgt := 95) hx hb gX12_taken_4.2.2.2.2.2.1 (by decide) (fun c9 => absurd c9 (by decide)) (fun _ => ?_)
                refine lv_iload_n hx hb gX12_taken_4.2.2.2.2.2.2.1 rfl (lv_at0 hl) ?_
                refine lv_iload_n hx hb gX12_taken_4.2.2.2.2.2.2.2.1 rfl (lv_at3 hl) ?_
                refine lv_icmp_eq (tgt := 95) hx hb gX12_taken_4.2.2.2.2.2.2.2.2.1 (by decide) (fun c_84_6117 => ?_) (fun c_84_6117 => ?_)
                · refine lv_iload_n hx hb gX12_taken_5.2.2.2.1 rfl (lv_at0 hl) ?_
                  refine lv_iload_n hx hb gX12_taken_5.2.2.2.2.1 rfl (lv_at3 hl) ?_
                  refine lv_icmp_ne (tgt := 109) hx hb gX12_taken_5.2.2.2.2.2.1 (by decide) (fun c9 => absurd (c_84_6117) c9) (fun _ => ?_)
                  refine lv_aload_n hx hb gX12_taken_5.2.2.2.2.2.2.1 rfl (lv_at1 hl) ?_
                  refine gf_X12_75 hC rfl hK hP 0 rfl rfl gX12_taken_5.2.2.2.2.2.2.2.1 ?_
                  refine lv_iload_n hx hb gX12_taken_5.2.2.2.2.2.2.2.2.1 rfl (lv_at2 hl) ?_
                  refine aldN hC hK hP 3 rfl (k := jt) (by omega) (Nat.le_of_ble_eq_true rfl) (v := fnsf jt) rfl gX12_taken_5.2.2.2.2.2.2.2.2.2 ?_
                  refine lv_goto (tgt := 111) hx hb gX12_taken_6.1 (by decide) ?_
                  refine toQ hQ0 ?_
                  exact RP (v := fnsf jt) hC ((by first | rfl | (simp only [nI_clamp (n := jt) (by omega), ifc_t ekq, ifc_t hkq, ifc_t ek8, ifc_t hk8, ifc_t ek9, ifc_t hk9, ifc_t hN, ifc_t a6037, ifc_f a6039, ifc_t a6093, ifc_f c_37_6094, ifc_f c_84_6111, ifc_f c_84_6114, ifc_t c_84_6117, ifc_t (q := Wi x2 0 6 ∨ Wi x2 10 14) (Or.inr a6093), a6096, ifc_f (q := (3 : Int32) < 0) (by decide), ifc_t (q := UNl (3 : Int32).toNatClampNeg x2) (show UNl 3 x2 from Or.inr (Or.inr (c_84_6117.symm)))]; done) | (simp only [nI_clamp (n := jt) (by omega), ifc_t ekq, ifc_t hkq, ifc_t ek8, ifc_t hk8, ifc_t ek9, ifc_t hk9, ifc_t hN, ifc_t a6037, ifc_f a6039, ifc_t a6093, ifc_f c_37_6094, ifc_f c_84_6111, ifc_f c_84_6114, ifc_t c_84_6117, ifc_t (q := Wi x2 0 6 ∨ Wi x2 10 14) (Or.inr a6093), a6096, ifc_f (q := (3 : Int32) < 0) (by decide), ifc_t (q := UNl (3 : Int32).toNatClampNeg x2) (show UNl 3 x2 from Or.inr (Or.inr (c_84_6117.symm)))]; rfl))) rfl gX12_taken_6.2.2
                · refine lv_iload_n hx hb gX12_taken_4.2.2.2.2.2.2.2.2.2 rfl (lv_at0 hl) ?_
                  refine pS hC hK hl (m_above0 l G) si_X12_348 rfl rfl (Nat.le_of_ble_eq_true rfl) rm_4_1_1 ⟨by first | exact Nat.le_of_ble_eq_true rfl | exact Nat.zero_le _, by first | exact Nat.le_of_ble_eq_true rfl | exact Nat.zero_le _⟩ gX12_taken_5.1 (Keqr ?_)
                  refine lv_istore_n (lv' := [(3, .int (-1)), (0, .ref h0), (1, .int (nI jt)), (2, .int x2)]) hx hb gX12_taken_5.2.1 rfl hl (by decide) rfl (fun ls hl => ?_)
                  refine lv_goto (tgt := 78) hx hb gX12_taken_5.2.2.1 (by decide) ?_
                  refine lv_iload_n hx hb gX12_taken_4.2.2.2.2.1 rfl (lv_at0 hl) ?_
                  refine lv_if_lt (tgt := 95) hx hb gX12_taken_4.2.2.2.2.2.1 (by decide) (fun _ => ?_) (fun c9 => absurd (by decide) c9)
                  refine lv_iload_n hx hb gX12_taken_5.2.2.2.1 rfl (lv_at0 hl) ?_
                  refine lv_iload_n hx hb gX12_taken_5.2.2.2.2.1 rfl (lv_at3 hl) ?_
                  refine lv_icmp_ne (tgt := 109) hx hb gX12_taken_5.2.2.2.2.2.1 (by decide) (fun c_97_6120 => ?_) (fun c_97_6120 => ?_)
                  · refine lv_bipush (v := (-13)) hx hb gX12_taken_6.2.1 (by decide) ?_
                    refine toQ hQ0 ?_
                    exact RP (v := (-13)) hC ((by first | rfl | (simp only [nI_clamp (n := jt) (by omega), ifc_t ekq, ifc_t hkq, ifc_t ek8, ifc_t hk8, ifc_t ek9, ifc_t hk9, ifc_t hN, ifc_t a6037, ifc_f a6039, ifc_t a6093, ifc_f c_37_6094, ifc_f c_84_6111, ifc_f c_84_6114, ifc_f c_84_6117, ifc_f c_97_6120, ifc_t (q := Wi x2 0 6 ∨ Wi x2 10 14) (Or.inr a6093), a6096, ifc_f (q := (3 : Int32) < 0) (by decide), ifc_f (q := UNl (3 : Int32).toNatClampNeg x2) (fun h9 => (show False from by have h7 : x2 = 3 ∨ x2 = 1 ∨ x2 = 0 := h9; rcases h7 with h8 | h8 | h8 <;> (first | exact c_84_6111 h8.symm | exact c_84_6114 h8.symm | exact c_84_6117 h8.symm)))]; done) | (simp only [nI_clamp (n := jt) (by omega), ifc_t ekq, ifc_t hkq, ifc_t ek8, ifc_t hk8, ifc_t ek9, ifc_t hk9, ifc_t hN, ifc_t a6037, ifc_f a6039, ifc_t a6093, ifc_f c_37_6094, ifc_f c_84_6111, ifc_f c_84_6114, ifc_f c_84_6117, ifc_f c_97_6120, ifc_t (q := Wi x2 0 6 ∨ Wi x2 10 14) (Or.inr a6093), a6096, ifc_f (q := (3 : Int32) < 0) (by decide), ifc_f (q := UNl (3 : Int32).toNatClampNeg x2) (fun h9 => (show False from by have h7 : x2 = 3 ∨ x2 = 1 ∨ x2 = 0 := h9; rcases h7 with h8 | h8 | h8 <;> (first | exact c_84_6111 h8.symm | exact c_84_6114 h8.symm | exact c_84_6117 h8.symm)))]; rfl))) rfl gX12_taken_6.2.2
                  · refine lv_aload_n hx hb gX12_taken_5.2.2.2.2.2.2.1 rfl (lv_at1 hl) ?_
                    refine gf_X12_75 hC rfl hK hP 0 rfl rfl gX12_taken_5.2.2.2.2.2.2.2.1 ?_
                    refine lv_iload_n hx hb gX12_taken_5.2.2.2.2.2.2.2.2.1 rfl (lv_at2 hl) ?_
                    refine aldN hC hK hP 3 rfl (k := jt) (by omega) (Nat.le_of_ble_eq_true rfl) (v := fnsf jt) rfl gX12_taken_5.2.2.2.2.2.2.2.2.2 ?_
                    refine lv_goto (tgt := 111) hx hb gX12_taken_6.1 (by decide) ?_
                    refine toQ hQ0 ?_
                    exact RP (v := fnsf jt) hC ((absurd a6093 (by rw [← c_97_6120]; unfold Wi; decide))) rfl gX12_taken_6.2.2
          · refine lv_istore_n (lv' := [(3, .int 4), (0, .ref h0), (1, .int (nI jt)), (2, .int x2)]) hx hb gX12_taken_3.2.2.2.2.2.2.2.2.2 rfl hl (by decide) rfl (fun ls hl => ?_)
            refine lv_iload_n hx hb gX12_taken_4.1 rfl (lv_at0 hl) ?_
            refine lv_if_ge (tgt := 78) hx hb gX12_taken_4.2.1 (by decide) (fun _ => ?_) (fun c9 => absurd (by decide) c9)
            refine lv_iload_n hx hb gX12_taken_4.2.2.2.2.1 rfl (lv_at0 hl) ?_
            refine lv_if_lt (tgt := 95) hx hb gX12_taken_4.2.2.2.2.2.1 (by decide) (fun c9 => absurd c9 (by decide)) (fun _ => ?_)
            refine lv_iload_n hx hb gX12_taken_4.2.2.2.2.2.2.1 rfl (lv_at0 hl) ?_
            refine lv_iload_n hx hb gX12_taken_4.2.2.2.2.2.2.2.1 rfl (lv_at3 hl) ?_
            refine lv_icmp_eq (tgt := 95) hx hb gX12_taken_4.2.2.2.2.2.2.2.2.1 (by decide) (fun c_84_6121 => ?_) (fun c_84_6121 => ?_)
            · refine lv_iload_n hx hb gX12_taken_5.2.2.2.1 rfl (lv_at0 hl) ?_
              refine lv_iload_n hx hb gX12_taken_5.2.2.2.2.1 rfl (lv_at3 hl) ?_
              refine lv_icmp_ne (tgt := 109) hx hb gX12_taken_5.2.2.2.2.2.1 (by decide) (fun c9 => absurd (c_84_6121) c9) (fun _ => ?_)
              refine lv_aload_n hx hb gX12_taken_5.2.2.2.2.2.2.1 rfl (lv_at1 hl) ?_
              refine gf_X12_75 hC rfl hK hP 0 rfl rfl gX12_taken_5.2.2.2.2.2.2.2.1 ?_
              refine lv_iload_n hx hb gX12_taken_5.2.2.2.2.2.2.2.2.1 rfl (lv_at2 hl) ?_
              refine aldN hC hK hP 3 rfl (k := jt) (by omega) (Nat.le_of_ble_eq_true rfl) (v := fnsf jt) rfl gX12_taken_5.2.2.2.2.2.2.2.2.2 ?_
              refine lv_goto (tgt := 111) hx hb gX12_taken_6.1 (by decide) ?_
              refine toQ hQ0 ?_
              exact RP (v := fnsf jt) hC ((by first | rfl | (simp only [nI_clamp (n := jt) (by omega), ifc_t ekq, ifc_t hkq, ifc_t ek8, ifc_t hk8, ifc_t ek9, ifc_t hk9, ifc_t hN, ifc_t a6037, ifc_f a6039, ifc_t a6093, ifc_f c_37_6094, ifc_t c_84_6121, ifc_t (q := Wi x2 0 6 ∨ Wi x2 10 14) (Or.inr a6093), a6096, ifc_f (q := (4 : Int32) < 0) (by decide), ifc_t (q := UNl (4 : Int32).toNatClampNeg x2) (show UNl 4 x2 from Or.inl (c_84_6121.symm))]; done) | (simp only [nI_clamp (n := jt) (by omega), ifc_t ekq, ifc_t hkq, ifc_t ek8, ifc_t hk8, ifc_t ek9, ifc_t hk9, ifc_t hN, ifc_t a6037, ifc_f a6039, ifc_t a6093, ifc_f c_37_6094, ifc_t c_84_6121, ifc_t (q := Wi x2 0 6 ∨ Wi x2 10 14) (Or.inr a6093), a6096, ifc_f (q := (4 : Int32) < 0) (by decide), ifc_t (q := UNl (4 : Int32).toNatClampNeg x2) (show UNl 4 x2 from Or.inl (c_84_6121.symm))]; rfl))) rfl gX12_taken_6.2.2
            · refine lv_iload_n hx hb gX12_taken_4.2.2.2.2.2.2.2.2.2 rfl (lv_at0 hl) ?_
              refine pS hC hK hl (m_above4 l G) si_X12_348 rfl rfl (Nat.le_of_ble_eq_true rfl) rm_4_1_1 ⟨by first | exact Nat.le_of_ble_eq_true rfl | exact Nat.zero_le _, by first | exact Nat.le_of_ble_eq_true rfl | exact Nat.zero_le _⟩ gX12_taken_5.1 (Keqr ?_)
              refine lv_istore_n (lv' := [(3, .int 0), (0, .ref h0), (1, .int (nI jt)), (2, .int x2)]) hx hb gX12_taken_5.2.1 rfl hl (by decide) rfl (fun ls hl => ?_)
              refine lv_goto (tgt := 78) hx hb gX12_taken_5.2.2.1 (by decide) ?_
              refine lv_iload_n hx hb gX12_taken_4.2.2.2.2.1 rfl (lv_at0 hl) ?_
              refine lv_if_lt (tgt := 95) hx hb gX12_taken_4.2.2.2.2.2.1 (by decide) (fun c9 => absurd c9 (by decide)) (fun _ => ?_)
              refine lv_iload_n hx hb gX12_taken_4.2.2.2.2.2.2.1 rfl (lv_at0 hl) ?_
              refine lv_iload_n hx hb gX12_taken_4.2.2.2.2.2.2.2.1 rfl (lv_at3 hl) ?_
              refine lv_icmp_eq (tgt := 95) hx hb gX12_taken_4.2.2.2.2.2.2.2.2.1 (by decide) (fun c_84_6124 => ?_) (fun c_84_6124 => ?_)
              · refine lv_iload_n hx hb gX12_taken_5.2.2.2.1 rfl (lv_at0 hl) ?_
                refine lv_iload_n hx hb gX12_taken_5.2.2.2.2.1 rfl (lv_at3 hl) ?_
                refine lv_icmp_ne (tgt := 109) hx hb gX12_taken_5.2.2.2.2.2.1 (by decide) (fun c9 => absurd (c_84_6124) c9) (fun _ => ?_)
                refine lv_aload_n hx hb gX12_taken_5.2.2.2.2.2.2.1 rfl (lv_at1 hl) ?_
                refine gf_X12_75 hC rfl hK hP 0 rfl rfl gX12_taken_5.2.2.2.2.2.2.2.1 ?_
                refine lv_iload_n hx hb gX12_taken_5.2.2.2.2.2.2.2.2.1 rfl (lv_at2 hl) ?_
                refine aldN hC hK hP 3 rfl (k := jt) (by omega) (Nat.le_of_ble_eq_true rfl) (v := fnsf jt) rfl gX12_taken_5.2.2.2.2.2.2.2.2.2 ?_
                refine lv_goto (tgt := 111) hx hb gX12_taken_6.1 (by decide) ?_
                refine toQ hQ0 ?_
                exact RP (v := fnsf jt) hC ((by first | rfl | (simp only [nI_clamp (n := jt) (by omega), ifc_t ekq, ifc_t hkq, ifc_t ek8, ifc_t hk8, ifc_t ek9, ifc_t hk9, ifc_t hN, ifc_t a6037, ifc_f a6039, ifc_t a6093, ifc_f c_37_6094, ifc_f c_84_6121, ifc_t c_84_6124, ifc_t (q := Wi x2 0 6 ∨ Wi x2 10 14) (Or.inr a6093), a6096, ifc_f (q := (4 : Int32) < 0) (by decide), ifc_t (q := UNl (4 : Int32).toNatClampNeg x2) (show UNl 4 x2 from Or.inr (c_84_6124.symm))]; done) | (simp only [nI_clamp (n := jt) (by omega), ifc_t ekq, ifc_t hkq, ifc_t ek8, ifc_t hk8, ifc_t ek9, ifc_t hk9, ifc_t hN, ifc_t a6037, ifc_f a6039, ifc_t a6093, ifc_f c_37_6094, ifc_f c_84_6121, ifc_t c_84_6124, ifc_t (q := Wi x2 0 6 ∨ Wi x2 10 14) (Or.inr a6093), a6096, ifc_f (q := (4 : Int32) < 0) (by decide), ifc_t (q := UNl (4 : Int32).toNatClampNeg x2) (show UNl 4 x2 from Or.inr (c_84_6124.symm))]; rfl))) rfl gX12_taken_6.2.2
              · refine lv_iload_n hx hb gX12_taken_4.2.2.2.2.2.2.2.2.2 rfl (lv_at0 hl) ?_
                refine pS hC hK hl (m_above0 l G) si_X12_348 rfl rfl (Nat.le_of_ble_eq_true rfl) rm_4_1_1 ⟨by first | exact Nat.le_of_ble_eq_true rfl | exact Nat.zero_le _, by first | exact Nat.le_of_ble_eq_true rfl | exact Nat.zero_le _⟩ gX12_taken_5.1 (Keqr ?_)
                refine lv_istore_n (lv' := [(3, .int (-1)), (0, .ref h0), (1, .int (nI jt)), (2, .int x2)]) hx hb gX12_taken_5.2.1 rfl hl (by decide) rfl (fun ls hl => ?_)
                refine lv_goto (tgt := 78) hx hb gX12_taken_5.2.2.1 (by decide) ?_
                refine lv_iload_n hx hb gX12_taken_4.2.2.2.2.1 rfl (lv_at0 hl) ?_
                refine lv_if_lt (tgt := 95) hx hb gX12_taken_4.2.2.2.2.2.1 (by decide) (fun _ => ?_) (fun c9 => absurd (by decide) c9)
                refine lv_iload_n hx hb gX12_taken_5.2.2.2.1 rfl (lv_at0 hl) ?_
                refine lv_iload_n hx hb gX12_taken_5.2.2.2.2.1 rfl (lv_at3 hl) ?_
                refine lv_icmp_ne (tgt := 109) hx hb gX12_taken_5.2.2.2.2.2.1 (by decide) (fun c_97_6127 => ?_) (fun c_97_6127 => ?_)
                · refine lv_bipush (v := (-13)) hx hb gX12_taken_6.2.1 (by decide) ?_
                  refine toQ hQ0 ?_
                  exact RP (v := (-13)) hC ((by first | rfl | (simp only [nI_clamp (n := jt) (by omega), ifc_t ekq, ifc_t hkq, ifc_t ek8, ifc_t hk8, ifc_t ek9, ifc_t hk9, ifc_t hN, ifc_t a6037, ifc_f a6039, ifc_t a6093, ifc_f c_37_6094, ifc_f c_84_6121, ifc_f c_84_6124, ifc_f c_97_6127, ifc_t (q := Wi x2 0 6 ∨ Wi x2 10 14) (Or.inr a6093), a6096, ifc_f (q := (4 : Int32) < 0) (by decide), ifc_f (q := UNl (4 : Int32).toNatClampNeg x2) (fun h9 => (show False from by have h7 : x2 = 4 ∨ x2 = 0 := h9; rcases h7 with h8 | h8 <;> (first | exact c_84_6121 h8.symm | exact c_84_6124 h8.symm)))]; done) | (simp only [nI_clamp (n := jt) (by omega), ifc_t ekq, ifc_t hkq, ifc_t ek8, ifc_t hk8, ifc_t ek9, ifc_t hk9, ifc_t hN, ifc_t a6037, ifc_f a6039, ifc_t a6093, ifc_f c_37_6094, ifc_f c_84_6121, ifc_f c_84_6124, ifc_f c_97_6127, ifc_t (q := Wi x2 0 6 ∨ Wi x2 10 14) (Or.inr a6093), a6096, ifc_f (q := (4 : Int32) < 0) (by decide), ifc_f (q := UNl (4 : Int32).toNatClampNeg x2) (fun h9 => (show False from by have h7 : x2 = 4 ∨ x2 = 0 := h9; rcases h7 with h8 | h8 <;> (first | exact c_84_6121 h8.symm | exact c_84_6124 h8.symm)))]; rfl))) rfl gX12_taken_6.2.2
                · refine lv_aload_n hx hb gX12_taken_5.2.2.2.2.2.2.1 rfl (lv_at1 hl) ?_
                  refine gf_X12_75 hC rfl hK hP 0 rfl rfl gX12_taken_5.2.2.2.2.2.2.2.1 ?_
                  refine lv_iload_n hx hb gX12_taken_5.2.2.2.2.2.2.2.2.1 rfl (lv_at2 hl) ?_
                  refine aldN hC hK hP 3 rfl (k := jt) (by omega) (Nat.le_of_ble_eq_true rfl) (v := fnsf jt) rfl gX12_taken_5.2.2.2.2.2.2.2.2.2 ?_
                  refine lv_goto (tgt := 111) hx hb gX12_taken_6.1 (by decide) ?_
                  refine toQ hQ0 ?_
                  exact RP (v := fnsf jt) hC ((absurd a6093 (by rw [← c_97_6127]; unfold Wi; decide))) rfl gX12_taken_6.2.2
          · refine lv_istore_n (lv' := [(3, .int 5), (0, .ref h0), (1, .int (nI jt)), (2, .int x2)]) hx hb gX12_taken_3.2.2.2.2.2.2.2.2.2 rfl hl (by decide) rfl (fun ls hl => ?_)
            refine lv_iload_n hx hb gX12_taken_4.1 rfl (lv_at0 hl) ?_
            refine lv_if_ge (tgt := 78) hx hb gX12_taken_4.2.1 (by decide) (fun _ => ?_) (fun c9 => absurd (by decide) c9)
            refine lv_iload_n hx hb gX12_taken_4.2.2.2.2.1 rfl (lv_at0 hl) ?_
            refine lv_if_lt (tgt := 95) hx hb gX12_taken_4.2.2.2.2.2.1 (by decide) (fun c9 => absurd c9 (by decide)) (fun _ => ?_)
            refine lv_iload_n hx hb gX12_taken_4.2.2.2.2.2.2.1 rfl (lv_at0 hl) ?_
            refine lv_iload_n hx hb gX12_taken_4.2.2.2.2.2.2.2.1 rfl (lv_at3 hl) ?_
            refine lv_icmp_eq (tgt := 95) hx hb gX12_taken_4.2.2.2.2.2.2.2.2.1 (by decide) (fun c_84_6128 => ?_) (fun c_84_6128 => ?_)
            · refine lv_iload_n hx hb gX12_taken_5.2.2.2.1 rfl (lv_at0 hl) ?_
              refine lv_iload_n hx hb gX12_taken_5.2.2.2.2.1 rfl (lv_at3 hl) ?_
              refine lv_icmp_ne (tgt := 109) hx hb gX12_taken_5.2.2.2.2.2.1 (by decide) (fun c9 => absurd (c_84_6128) c9) (fun _ => ?_)
              refine lv_aload_n hx hb gX12_taken_5.2.2.2.2.2.2.1 rfl (lv_at1 hl) ?_
              refine gf_X12_75 hC rfl hK hP 0 rfl rfl gX12_taken_5.2.2.2.2.2.2.2.1 ?_
              refine lv_iload_n hx hb gX12_taken_5.2.2.2.2.2.2.2.2.1 rfl (lv_at2 hl) ?_
              refine aldN hC hK hP 3 rfl (k := jt) (by omega) (Nat.le_of_ble_eq_true rfl) (v := fnsf jt) rfl gX12_taken_5.2.2.2.2.2.2.2.2.2 ?_
              refine lv_goto (tgt := 111) hx hb gX12_taken_6.1 (by decide) ?_
              refine toQ hQ0 ?_
              exact RP (v := fnsf jt) hC ((by first | rfl | (simp only [nI_clamp (n := jt) (by omega), ifc_t ekq, ifc_t hkq, ifc_t ek8, ifc_t hk8, ifc_t ek9, ifc_t hk9, ifc_t hN, ifc_t a6037, ifc_f a6039, ifc_t a6093, ifc_f c_37_6094, ifc_t c_84_6128, ifc_t (q := Wi x2 0 6 ∨ Wi x2 10 14) (Or.inr a6093), a6096, ifc_f (q := (5 : Int32) < 0) (by decide), ifc_t (q := UNl (5 : Int32).toNatClampNeg x2) (show UNl 5 x2 from Or.inl (c_84_6128.symm))]; done) | (simp only [nI_clamp (n := jt) (by omega), ifc_t ekq, ifc_t hkq, ifc_t ek8, ifc_t hk8, ifc_t ek9, ifc_t hk9, ifc_t hN, ifc_t a6037, ifc_f a6039, ifc_t a6093, ifc_f c_37_6094, ifc_t c_84_6128, ifc_t (q := Wi x2 0 6 ∨ Wi x2 10 14) (Or.inr a6093), a6096, ifc_f (q := (5 : Int32) < 0) (by decide), ifc_t (q := UNl (5 : Int32).toNatClampNeg x2) (show UNl 5 x2 from Or.inl (c_84_6128.symm))]; rfl))) rfl gX12_taken_6.2.2
            · refine lv_iload_n hx hb gX12_taken_4.2.2.2.2.2.2.2.2.2 rfl (lv_at0 hl) ?_
              refine pS hC hK hl (m_above5 l G) si_X12_348 rfl rfl (Nat.le_of_ble_eq_true rfl) rm_4_1_1 ⟨by first | exact Nat.le_of_ble_eq_true rfl | exact Nat.zero_le _, by first | exact Nat.le_of_ble_eq_true rfl | exact Nat.zero_le _⟩ gX12_taken_5.1 (Keqr ?_)
              refine lv_istore_n (lv' := [(3, .int 4), (0, .ref h0), (1, .int (nI jt)), (2, .int x2)]) hx hb gX12_taken_5.2.1 rfl hl (by decide) rfl (fun ls hl => ?_)
              refine lv_goto (tgt := 78) hx hb gX12_taken_5.2.2.1 (by decide) ?_
              refine lv_iload_n hx hb gX12_taken_4.2.2.2.2.1 rfl (lv_at0 hl) ?_
              refine lv_if_lt (tgt := 95) hx hb gX12_taken_4.2.2.2.2.2.1 (by decide) (fun c9 => absurd c9 (by decide)) (fun _ => ?_)
              refine lv_iload_n hx hb gX12_taken_4.2.2.2.2.2.2.1 rfl (lv_at0 hl) ?_
              refine lv_iload_n hx hb gX12_taken_4.2.2.2.2.2.2.2.1 rfl (lv_at3 hl) ?_
              refine lv_icmp_eq (tgt := 95) hx hb gX12_taken_4.2.2.2.2.2.2.2.2.1 (by decide) (fun c_84_6131 => ?_) (fun c_84_6131 => ?_)
              · refine lv_iload_n hx hb gX12_taken_5.2.2.2.1 rfl (lv_at0 hl) ?_
                refine lv_iload_n hx hb gX12_taken_5.2.2.2.2.1 rfl (lv_at3 hl) ?_
                refine lv_icmp_ne (tgt := 109) hx hb gX12_taken_5.2.2.2.2.2.1 (by decide) (fun c9 => absurd (c_84_6131) c9) (fun _ => ?_)
                refine lv_aload_n hx hb gX12_taken_5.2.2.2.2.2.2.1 rfl (lv_at1 hl) ?_
                refine gf_X12_75 hC rfl hK hP 0 rfl rfl gX12_taken_5.2.2.2.2.2.2.2.1 ?_
                refine lv_iload_n hx hb gX12_taken_5.2.2.2.2.2.2.2.2.1 rfl (lv_at2 hl) ?_
                refine aldN hC hK hP 3 rfl (k := jt) (by omega) (Nat.le_of_ble_eq_true rfl) (v := fnsf jt) rfl gX12_taken_5.2.2.2.2.2.2.2.2.2 ?_
                refine lv_goto (tgt := 111) hx hb gX12_taken_6.1 (by decide) ?_
                refine toQ hQ0 ?_
                exact RP (v := fnsf jt) hC ((by first | rfl | (simp only [nI_clamp (n := jt) (by omega), ifc_t ekq, ifc_t hkq, ifc_t ek8, ifc_t hk8, ifc_t ek9, ifc_t hk9, ifc_t hN, ifc_t a6037, ifc_f a6039, ifc_t a6093, ifc_f c_37_6094, ifc_f c_84_6128, ifc_t c_84_6131, ifc_t (q := Wi x2 0 6 ∨ Wi x2 10 14) (Or.inr a6093), a6096, ifc_f (q := (5 : Int32) < 0) (by decide), ifc_t (q := UNl (5 : Int32).toNatClampNeg x2) (show UNl 5 x2 from Or.inr (Or.inl (c_84_6131.symm)))]; done) | (simp only [nI_clamp (n := jt) (by omega), ifc_t ekq, ifc_t hkq, ifc_t ek8, ifc_t hk8, ifc_t ek9, ifc_t hk9, ifc_t hN, ifc_t a6037, ifc_f a6039, ifc_t a6093, ifc_f c_37_6094, ifc_f c_84_6128, ifc_t c_84_6131, ifc_t (q := Wi x2 0 6 ∨ Wi x2 10 14) (Or.inr a6093), a6096, ifc_f (q := (5 : Int32) < 0) (by decide), ifc_t (q := UNl (5 : Int32).toNatClampNeg x2) (show UNl 5 x2 from Or.inr (Or.inl (c_84_6131.symm)))]; rfl))) rfl gX12_taken_6.2.2
              · refine lv_iload_n hx hb gX12_taken_4.2.2.2.2.2.2.2.2.2 rfl (lv_at0 hl) ?_
                refine pS hC hK hl (m_above4 l G) si_X12_348 rfl rfl (Nat.le_of_ble_eq_true rfl) rm_4_1_1 ⟨by first | exact Nat.le_of_ble_eq_true rfl | exact Nat.zero_le _, by first | exact Nat.le_of_ble_eq_true rfl | exact Nat.zero_le _⟩ gX12_taken_5.1 (Keqr ?_)
                refine lv_istore_n (lv' := [(3, .int 0), (0, .ref h0), (1, .int (nI jt)), (2, .int x2)]) hx hb gX12_taken_5.2.1 rfl hl (by decide) rfl (fun ls hl => ?_)
                refine lv_goto (tgt := 78) hx hb gX12_taken_5.2.2.1 (by decide) ?_
                refine lv_iload_n hx hb gX12_taken_4.2.2.2.2.1 rfl (lv_at0 hl) ?_
                refine lv_if_lt (tgt := 95) hx hb gX12_taken_4.2.2.2.2.2.1 (by decide) (fun c9 => absurd c9 (by decide)) (fun _ => ?_)
                refine lv_iload_n hx hb gX12_taken_4.2.2.2.2.2.2.1 rfl (lv_at0 hl) ?_
                refine lv_iload_n hx hb gX12_taken_4.2.2.2.2.2.2.2.1 rfl (lv_at3 hl) ?_
                refine lv_icmp_eq (tgt := 95) hx hb gX12_taken_4.2.2.2.2.2.2.2.2.1 (by decide) (fun c_84_6134 => ?_) (fun c_84_6134 => ?_)
                · refine lv_iload_n hx hb gX12_taken_5.2.2.2.1 rfl (lv_at0 hl) ?_
                  refine lv_iload_n hx hb gX12_taken_5.2.2.2.2.1 rfl (lv_at3 hl) ?_
                  refine lv_icmp_ne (tgt := 109) hx hb gX12_taken_5.2.2.2.2.2.1 (by decide) (fun c9 => absurd (c_84_6134) c9) (fun _ => ?_)
                  refine lv_aload_n hx hb gX12_taken_5.2.2.2.2.2.2.1 rfl (lv_at1 hl) ?_
                  refine gf_X12_75 hC rfl hK hP 0 rfl rfl gX12_taken_5.2.2.2.2.2.2.2.1 ?_
                  refine lv_iload_n hx hb gX12_taken_5.2.2.2.2.2.2.2.2.1 rfl (lv_at2 hl) ?_
                  refine aldN hC hK hP 3 rfl (k := jt) (by omega) (Nat.le_of_ble_eq_true rfl) (v := fnsf jt) rfl gX12_taken_5.2.2.2.2.2.2.2.2.2 ?_
                  refine lv_goto (tgt := 111) hx hb gX12_taken_6.1 (by decide) ?_
                  refine toQ hQ0 ?_
                  exact RP (v := fnsf jt) hC ((by first | rfl | (simp only [nI_clamp (n := jt) (by omega), ifc_t ekq, ifc_t hkq, ifc_t ek8, ifc_t hk8, ifc_t ek9, ifc_t hk9, ifc_t hN, ifc_t a6037, ifc_f a6039, ifc_t a6093, ifc_f c_37_6094, ifc_f c_84_6128, ifc_f c_84_6131, ifc_t c_84_6134, ifc_t (q := Wi x2 0 6 ∨ Wi x2 10 14) (Or.inr a6093), a6096, ifc_f (q := (5 : Int32) < 0) (by decide), ifc_t (q := UNl (5 : Int32).toNatClampNeg x2) (show UNl 5 x2 from Or.inr (Or.inr (c_84_6134.symm)))]; done) | (simp only [nI_clamp (n := jt) (by omega), ifc_t ekq, ifc_t hkq, ifc_t ek8, ifc_t hk8, ifc_t ek9, ifc_t hk9, ifc_t hN, ifc_t a6037, ifc_f a6039, ifc_t a6093, ifc_f c_37_6094, ifc_f c_84_6128, ifc_f c_84_6131, ifc_t c_84_6134, ifc_t (q := Wi x2 0 6 ∨ Wi x2 10 14) (Or.inr a6093), a6096, ifc_f (q := (5 : Int32) < 0) (by decide), ifc_t (q := UNl (5 : Int32).toNatClampNeg x2) (show UNl 5 x2 from Or.inr (Or.inr (c_84_6134.symm)))]; rfl))) rfl gX12_taken_6.2.2
                · refine lv_iload_n hx hb gX12_taken_4.2.2.2.2.2.2.2.2.2 rfl (lv_at0 hl) ?_
                  refine pS hC hK hl (m_above0 l G) si_X12_348 rfl rfl (Nat.le_of_ble_eq_true rfl) rm_4_1_1 ⟨by first | exact Nat.le_of_ble_eq_true rfl | exact Nat.zero_le _, by first | exact Nat.le_of_ble_eq_true rfl | exact Nat.zero_le _⟩ gX12_taken_5.1 (Keqr ?_)
                  refine lv_istore_n (lv' := [(3, .int (-1)), (0, .ref h0), (1, .int (nI jt)), (2, .int x2)]) hx hb gX12_taken_5.2.1 rfl hl (by decide) rfl (fun ls hl => ?_)
                  refine lv_goto (tgt := 78) hx hb gX12_taken_5.2.2.1 (by decide) ?_
                  refine lv_iload_n hx hb gX12_taken_4.2.2.2.2.1 rfl (lv_at0 hl) ?_
                  refine lv_if_lt (tgt := 95) hx hb gX12_taken_4.2.2.2.2.2.1 (by decide) (fun _ => ?_) (fun c9 => absurd (by decide) c9)
                  refine lv_iload_n hx hb gX12_taken_5.2.2.2.1 rfl (lv_at0 hl) ?_
                  refine lv_iload_n hx hb gX12_taken_5.2.2.2.2.1 rfl (lv_at3 hl) ?_
                  refine lv_icmp_ne (tgt := 109) hx hb gX12_taken_5.2.2.2.2.2.1 (by decide) (fun c_97_6137 => ?_) (fun c_97_6137 => ?_)
                  · refine lv_bipush (v := (-13)) hx hb gX12_taken_6.2.1 (by decide) ?_
                    refine toQ hQ0 ?_
                    exact RP (v := (-13)) hC ((by first | rfl | (simp only [nI_clamp (n := jt) (by omega), ifc_t ekq, ifc_t hkq, ifc_t ek8, ifc_t hk8, ifc_t ek9, ifc_t hk9, ifc_t hN, ifc_t a6037, ifc_f a6039, ifc_t a6093, ifc_f c_37_6094, ifc_f c_84_6128, ifc_f c_84_6131, ifc_f c_84_6134, ifc_f c_97_6137, ifc_t (q := Wi x2 0 6 ∨ Wi x2 10 14) (Or.inr a6093), a6096, ifc_f (q := (5 : Int32) < 0) (by decide), ifc_f (q := UNl (5 : Int32).toNatClampNeg x2) (fun h9 => (show False from by have h7 : x2 = 5 ∨ x2 = 4 ∨ x2 = 0 := h9; rcases h7 with h8 | h8 | h8 <;> (first | exact c_84_6128 h8.symm | exact c_84_6131 h8.symm | exact c_84_6134 h8.symm)))]; done) | (simp only [nI_clamp (n := jt) (by omega), ifc_t ekq, ifc_t hkq, ifc_t ek8, ifc_t hk8, ifc_t ek9, ifc_t hk9, ifc_t hN, ifc_t a6037, ifc_f a6039, ifc_t a6093, ifc_f c_37_6094, ifc_f c_84_6128, ifc_f c_84_6131, ifc_f c_84_6134, ifc_f c_97_6137, ifc_t (q := Wi x2 0 6 ∨ Wi x2 10 14) (Or.inr a6093), a6096, ifc_f (q := (5 : Int32) < 0) (by decide), ifc_f (q := UNl (5 : Int32).toNatClampNeg x2) (fun h9 => (show False from by have h7 : x2 = 5 ∨ x2 = 4 ∨ x2 = 0 := h9; rcases h7 with h8 | h8 | h8 <;> (first | exact c_84_6128 h8.symm | exact c_84_6131 h8.symm | exact c_84_6134 h8.symm)))]; rfl))) rfl gX12_taken_6.2.2
                  · refine lv_aload_n hx hb gX12_taken_5.2.2.2.2.2.2.1 rfl (lv_at1 hl) ?_
                    refine gf_X12_75 hC rfl hK hP 0 rfl rfl gX12_taken_5.2.2.2.2.2.2.2.1 ?_
                    refine lv_iload_n hx hb gX12_taken_5.2.2.2.2.2.2.2.2.1 rfl (lv_at2 hl) ?_
                    refine aldN hC hK hP 3 rfl (k := jt) (by omega) (Nat.le_of_ble_eq_true rfl) (v := fnsf jt) rfl gX12_taken_5.2.2.2.2.2.2.2.2.2 ?_
                    refine lv_goto (tgt := 111) hx hb gX12_taken_6.1 (by decide) ?_
                    refine toQ hQ0 ?_
                    exact RP (v := fnsf jt) hC ((absurd a6093 (by rw [← c_97_6137]; unfold Wi; decide))) rfl gX12_taken_6.2.2
          · refine lv_istore_n (lv' := [(3, .int 6), (0, .ref h0), (1, .int (nI jt)), (2, .int x2)]) hx hb gX12_taken_3.2.2.2.2.2.2.2.2.2 rfl hl (by decide) rfl (fun ls hl => ?_)
            refine lv_iload_n hx hb gX12_taken_4.1 rfl (lv_at0 hl) ?_
            refine lv_if_ge (tgt := 78) hx hb gX12_taken_4.2.1 (by decide) (fun _ => ?_) (fun c9 => absurd (by decide) c9)
            refine lv_iload_n hx hb gX12_taken_4.2.2.2.2.1 rfl (lv_at0 hl) ?_
            refine lv_if_lt (tgt := 95) hx hb gX12_taken_4.2.2.2.2.2.1 (by decide) (fun c9 => absurd c9 (by decide)) (fun _ => ?_)
            refine lv_iload_n hx hb gX12_taken_4.2.2.2.2.2.2.1 rfl (lv_at0 hl) ?_
            refine lv_iload_n hx hb gX12_taken_4.2.2.2.2.2.2.2.1 rfl (lv_at3 hl) ?_
            refine lv_icmp_eq (tgt := 95) hx hb gX12_taken_4.2.2.2.2.2.2.2.2.1 (by decide) (fun c_84_6138 => ?_) (fun c_84_6138 => ?_)
            · refine lv_iload_n hx hb gX12_taken_5.2.2.2.1 rfl (lv_at0 hl) ?_
              refine lv_iload_n hx hb gX12_taken_5.2.2.2.2.1 rfl (lv_at3 hl) ?_
              refine lv_icmp_ne (tgt := 109) hx hb gX12_taken_5.2.2.2.2.2.1 (by decide) (fun c9 => absurd (c_84_6138) c9) (fun _ => ?_)
              refine lv_aload_n hx hb gX12_taken_5.2.2.2.2.2.2.1 rfl (lv_at1 hl) ?_
              refine gf_X12_75 hC rfl hK hP 0 rfl rfl gX12_taken_5.2.2.2.2.2.2.2.1 ?_
              refine lv_iload_n hx hb gX12_taken_5.2.2.2.2.2.2.2.2.1 rfl (lv_at2 hl) ?_
              refine aldN hC hK hP 3 rfl (k := jt) (by omega) (Nat.le_of_ble_eq_true rfl) (v := fnsf jt) rfl gX12_taken_5.2.2.2.2.2.2.2.2.2 ?_
              refine lv_goto (tgt := 111) hx hb gX12_taken_6.1 (by decide) ?_
              refine toQ hQ0 ?_
              exact RP (v := fnsf jt) hC ((by first | rfl | (simp only [nI_clamp (n := jt) (by omega), ifc_t ekq, ifc_t hkq, ifc_t ek8, ifc_t hk8, ifc_t ek9, ifc_t hk9, ifc_t hN, ifc_t a6037, ifc_f a6039, ifc_t a6093, ifc_f c_37_6094, ifc_t c_84_6138, ifc_t (q := Wi x2 0 6 ∨ Wi x2 10 14) (Or.inr a6093), a6096, ifc_f (q := (6 : Int32) < 0) (by decide), ifc_t (q := UNl (6 : Int32).toNatClampNeg x2) (show UNl 6 x2 from Or.inl (c_84_6138.symm))]; done) | (simp only [nI_clamp (n := jt) (by omega), ifc_t ekq, ifc_t hkq, ifc_t ek8, ifc_t hk8, ifc_t ek9, ifc_t hk9, ifc_t hN, ifc_t a6037, ifc_f a6039, ifc_t a6093, ifc_f c_37_6094, ifc_t c_84_6138, ifc_t (q := Wi x2 0 6 ∨ Wi x2 10 14) (Or.inr a6093), a6096, ifc_f (q := (6 : Int32) < 0) (by decide), ifc_t (q := UNl (6 : Int32).toNatClampNeg x2) (show UNl 6 x2 from Or.inl (c_84_6138.symm))]; rfl))) rfl gX12_taken_6.2.2
            · refine lv_iload_n hx hb gX12_taken_4.2.2.2.2.2.2.2.2.2 rfl (lv_at0 hl) ?_
              refine pS hC hK hl (m_above6 l G) si_X12_348 rfl rfl (Nat.le_of_ble_eq_true rfl) rm_4_1_1 ⟨by first | exact Nat.le_of_ble_eq_true rfl | exact Nat.zero_le _, by first | exact Nat.le_of_ble_eq_true rfl | exact Nat.zero_le _⟩ gX12_taken_5.1 (Keqr ?_)
              refine lv_istore_n (lv' := [(3, .int 0), (0, .ref h0), (1, .int (nI jt)), (2, .int x2)]) hx hb gX12_taken_5.2.1 rfl hl (by decide) rfl (fun ls hl => ?_)
              refine lv_goto (tgt := 78) hx hb gX12_taken_5.2.2.1 (by decide) ?_
              refine lv_iload_n hx hb gX12_taken_4.2.2.2.2.1 rfl (lv_at0 hl) ?_
              refine lv_if_lt (tgt := 95) hx hb gX12_taken_4.2.2.2.2.2.1 (by decide) (fun c9 => absurd c9 (by decide)) (fun _ => ?_)
              refine lv_iload_n hx hb gX12_taken_4.2.2.2.2.2.2.1 rfl (lv_at0 hl) ?_
              refine lv_iload_n hx hb gX12_taken_4.2.2.2.2.2.2.2.1 rfl (lv_at3 hl) ?_
              refine lv_icmp_eq (tgt := 95) hx hb gX12_taken_4.2.2.2.2.2.2.2.2.1 (by decide) (fun c_84_6141 => ?_) (fun c_84_6141 => ?_)
              · refine lv_iload_n hx hb gX12_taken_5.2.2.2.1 rfl (lv_at0 hl) ?_
                refine lv_iload_n hx hb gX12_taken_5.2.2.2.2.1 rfl (lv_at3 hl) ?_
                refine lv_icmp_ne (tgt := 109) hx hb gX12_taken_5.2.2.2.2.2.1 (by decide) (fun c9 => absurd (c_84_6141) c9) (fun _ => ?_)
                refine lv_aload_n hx hb gX12_taken_5.2.2.2.2.2.2.1 rfl (lv_at1 hl) ?_
                refine gf_X12_75 hC rfl hK hP 0 rfl rfl gX12_taken_5.2.2.2.2.2.2.2.1 ?_
                refine lv_iload_n hx hb gX12_taken_5.2.2.2.2.2.2.2.2.1 rfl (lv_at2 hl) ?_
                refine aldN hC hK hP 3 rfl (k := jt) (by omega) (Nat.le_of_ble_eq_true rfl) (v := fnsf jt) rfl gX12_taken_5.2.2.2.2.2.2.2.2.2 ?_
                refine lv_goto (tgt := 111) hx hb gX12_taken_6.1 (by decide) ?_
                refine toQ hQ0 ?_
                exact RP (v := fnsf jt) hC ((by first | rfl | (simp only [nI_clamp (n := jt) (by omega), ifc_t ekq, ifc_t hkq, ifc_t ek8, ifc_t hk8, ifc_t ek9, ifc_t hk9, ifc_t hN, ifc_t a6037, ifc_f a6039, ifc_t a6093, ifc_f c_37_6094, ifc_f c_84_6138, ifc_t c_84_6141, ifc_t (q := Wi x2 0 6 ∨ Wi x2 10 14) (Or.inr a6093), a6096, ifc_f (q := (6 : Int32) < 0) (by decide), ifc_t (q := UNl (6 : Int32).toNatClampNeg x2) (show UNl 6 x2 from Or.inr (c_84_6141.symm))]; done) | (simp only [nI_clamp (n := jt) (by omega), ifc_t ekq, ifc_t hkq, ifc_t ek8, ifc_t hk8, ifc_t ek9, ifc_t hk9, ifc_t hN, ifc_t a6037, ifc_f a6039, ifc_t a6093, ifc_f c_37_6094, ifc_f c_84_6138, ifc_t c_84_6141, ifc_t (q := Wi x2 0 6 ∨ Wi x2 10 14) (Or.inr a6093), a6096, ifc_f (q := (6 : Int32) < 0) (by decide), ifc_t (q := UNl (6 : Int32).toNatClampNeg x2) (show UNl 6 x2 from Or.inr (c_84_6141.symm))]; rfl))) rfl gX12_taken_6.2.2
              · refine lv_iload_n hx hb gX12_taken_4.2.2.2.2.2.2.2.2.2 rfl (lv_at0 hl) ?_
                refine pS hC hK hl (m_above0 l G) si_X12_348 rfl rfl (Nat.le_of_ble_eq_true rfl) rm_4_1_1 ⟨by first | exact Nat.le_of_ble_eq_true rfl | exact Nat.zero_le _, by first | exact Nat.le_of_ble_eq_true rfl | exact Nat.zero_le _⟩ gX12_taken_5.1 (Keqr ?_)
                refine lv_istore_n (lv' := [(3, .int (-1)), (0, .ref h0), (1, .int (nI jt)), (2, .int x2)]) hx hb gX12_taken_5.2.1 rfl hl (by decide) rfl (fun ls hl => ?_)
                refine lv_goto (tgt := 78) hx hb gX12_taken_5.2.2.1 (by decide) ?_
                refine lv_iload_n hx hb gX12_taken_4.2.2.2.2.1 rfl (lv_at0 hl) ?_
                refine lv_if_lt (tgt := 95) hx hb gX12_taken_4.2.2.2.2.2.1 (by decide) (fun _ => ?_) (fun c9 => absurd (by decide) c9)
                refine lv_iload_n hx hb gX12_taken_5.2.2.2.1 rfl (lv_at0 hl) ?_
                refine lv_iload_n hx hb gX12_taken_5.2.2.2.2.1 rfl (lv_at3 hl) ?_
                refine lv_icmp_ne (tgt := 109) hx hb gX12_taken_5.2.2.2.2.2.1 (by decide) (fun c_97_6144 => ?_) (fun c_97_6144 => ?_)
                · refine lv_bipush (v := (-13)) hx hb gX12_taken_6.2.1 (by decide) ?_
                  refine toQ hQ0 ?_
                  exact RP (v := (-13)) hC ((by first | rfl | (simp only [nI_clamp (n := jt) (by omega), ifc_t ekq, ifc_t hkq, ifc_t ek8, ifc_t hk8, ifc_t ek9, ifc_t hk9, ifc_t hN, ifc_t a6037, ifc_f a6039, ifc_t a6093, ifc_f c_37_6094, ifc_f c_84_6138, ifc_f c_84_6141, ifc_f c_97_6144, ifc_t (q := Wi x2 0 6 ∨ Wi x2 10 14) (Or.inr a6093), a6096, ifc_f (q := (6 : Int32) < 0) (by decide), ifc_f (q := UNl (6 : Int32).toNatClampNeg x2) (fun h9 => (show False from by have h7 : x2 = 6 ∨ x2 = 0 := h9; rcases h7 with h8 | h8 <;> (first | exact c_84_6138 h8.symm | exact c_84_6141 h8.symm)))]; done) | (simp only [nI_clamp (n := jt) (by omega), ifc_t ekq, ifc_t hkq, ifc_t ek8, ifc_t hk8, ifc_t ek9, ifc_t hk9, ifc_t hN, ifc_t a6037, ifc_f a6039, ifc_t a6093, ifc_f c_37_6094, ifc_f c_84_6138, ifc_f c_84_6141, ifc_f c_97_6144, ifc_t (q := Wi x2 0 6 ∨ Wi x2 10 14) (Or.inr a6093), a6096, ifc_f (q := (6 : Int32) < 0) (by decide), ifc_f (q := UNl (6 : Int32).toNatClampNeg x2) (fun h9 => (show False from by have h7 : x2 = 6 ∨ x2 = 0 := h9; rcases h7 with h8 | h8 <;> (first | exact c_84_6138 h8.symm | exact c_84_6141 h8.symm)))]; rfl))) rfl gX12_taken_6.2.2
                · refine lv_aload_n hx hb gX12_taken_5.2.2.2.2.2.2.1 rfl (lv_at1 hl) ?_
                  refine gf_X12_75 hC rfl hK hP 0 rfl rfl gX12_taken_5.2.2.2.2.2.2.2.1 ?_
                  refine lv_iload_n hx hb gX12_taken_5.2.2.2.2.2.2.2.2.1 rfl (lv_at2 hl) ?_
                  refine aldN hC hK hP 3 rfl (k := jt) (by omega) (Nat.le_of_ble_eq_true rfl) (v := fnsf jt) rfl gX12_taken_5.2.2.2.2.2.2.2.2.2 ?_
                  refine lv_goto (tgt := 111) hx hb gX12_taken_6.1 (by decide) ?_
                  refine toQ hQ0 ?_
                  exact RP (v := fnsf jt) hC ((absurd a6093 (by rw [← c_97_6144]; unfold Wi; decide))) rfl gX12_taken_6.2.2
        · refine lv_iload_n hx hb gX12_taken_2.2.1 rfl (lv_at2 hl) ?_
          refine lv_bipush (v := 10) hx hb gX12_taken_2.2.2.1 (by decide) ?_
          refine lv_isub hx hb gX12_taken_2.2.2.2.1 ?_
          refine lv_aload_n hx hb gX12_taken_2.2.2.2.2.1 rfl (lv_at0 hl) ?_
          refine gf_X12_75 hC rfl hK hP 0 rfl rfl gX12_taken_2.2.2.2.2.2.1 ?_
          refine lv_iload_n hx hb gX12_taken_2.2.2.2.2.2.2.1 rfl (lv_at1 hl) ?_
          refine aldN hC hK hP 3 rfl (k := jt) (by omega) (Nat.le_of_ble_eq_true rfl) (v := fnsf jt) rfl gX12_taken_2.2.2.2.2.2.2.2.1 ?_
          refine lv_icmp_ne (tgt := 62) hx hb gX12_taken_2.2.2.2.2.2.2.2.2.1 (by decide) (fun c_50_6145 => ?_) (fun c_50_6145 => ?_)
          · refine lv_bipush (v := (-13)) hx hb gX12_taken_3.2.2.2.2.1 (by decide) ?_
            refine toQ hQ0 ?_
            exact RP (v := (-13)) hC ((by first | rfl | (simp only [nI_clamp (n := jt) (by omega), ifc_t ekq, ifc_t hkq, ifc_t ek8, ifc_t hk8, ifc_t ek9, ifc_t hk9, ifc_t hN, ifc_t a6037, ifc_f a6039, ifc_t a6093, ifc_t c_37_6094, ifc_f c_50_6145, ifc_t (q := Wi x2 0 6 ∨ Wi x2 10 14) (Or.inr a6093)]; done) | (simp only [nI_clamp (n := jt) (by omega), ifc_t ekq, ifc_t hkq, ifc_t ek8, ifc_t hk8, ifc_t ek9, ifc_t hk9, ifc_t hN, ifc_t a6037, ifc_f a6039, ifc_t a6093, ifc_t c_37_6094, ifc_f c_50_6145, ifc_t (q := Wi x2 0 6 ∨ Wi x2 10 14) (Or.inr a6093)]; rfl))) rfl gX12_taken_3.2.2.2.2.2.1
          · refine lv_aload_n hx hb gX12_taken_2.2.2.2.2.2.2.2.2.2 rfl (lv_at0 hl) ?_
            refine gf_X12_78 hC rfl hK hP 0 rfl rfl gX12_taken_3.1 ?_
            refine lv_iload_n hx hb gX12_taken_3.2.1 rfl (lv_at1 hl) ?_
            refine aldN hC hK hP 4 rfl (k := jt) (by omega) (Nat.le_of_ble_eq_true rfl) (v := fnss jt) rfl gX12_taken_3.2.2.1 ?_
            refine lv_goto (tgt := 64) hx hb gX12_taken_3.2.2.2.1 (by decide) ?_
            refine toQ hQ0 ?_
            exact RP (v := fnss jt) hC ((by first | rfl | (simp only [nI_clamp (n := jt) (by omega), ifc_t ekq, ifc_t hkq, ifc_t ek8, ifc_t hk8, ifc_t ek9, ifc_t hk9, ifc_t hN, ifc_t a6037, ifc_f a6039, ifc_t a6093, ifc_t c_37_6094, ifc_t c_50_6145, ifc_t (q := Wi x2 0 6 ∨ Wi x2 10 14) (Or.inr a6093)]; done) | (simp only [nI_clamp (n := jt) (by omega), ifc_t ekq, ifc_t hkq, ifc_t ek8, ifc_t hk8, ifc_t ek9, ifc_t hk9, ifc_t hN, ifc_t a6037, ifc_f a6039, ifc_t a6093, ifc_t c_37_6094, ifc_t c_50_6145, ifc_t (q := Wi x2 0 6 ∨ Wi x2 10 14) (Or.inr a6093)]; rfl))) rfl gX12_taken_3.2.2.2.2.2.1
      · refine lv_if_ne (tgt := 30) hx hb gX12_taken_1.2.2.1 (by decide) (fun c9 => absurd (by decide) c9) (fun _ => ?_)
        refine lv_iconst (v := (-1)) hx hb gX12_taken_1.2.2.2.1 (by decide) ?_
        refine toQ hQ0 ?_
        exact RP (v := (-1)) hC ((by first | rfl | (simp only [ifc_t ekq, ifc_t hkq, ifc_t ek8, ifc_t hk8, ifc_t ek9, ifc_t hk9, ifc_t hN, ifc_t a6037, ifc_f a6039, ifc_f a6093, ifc_f (q := Wi x2 0 6 ∨ Wi x2 10 14) (not_or.mpr ⟨a6039, a6093⟩)]; done) | (simp only [ifc_t ekq, ifc_t hkq, ifc_t ek8, ifc_t hk8, ifc_t ek9, ifc_t hk9, ifc_t hN, ifc_t a6037, ifc_f a6039, ifc_f a6093, ifc_f (q := Wi x2 0 6 ∨ Wi x2 10 14) (not_or.mpr ⟨a6039, a6093⟩)]; rfl))) rfl gX12_taken_1.2.2.2.2.1
  · refine lv_if_eq (tgt := 28) hx hb gX12_taken_0.2.2.1 (by decide) (fun _ => ?_) (fun c9 => absurd (by decide) c9)
    refine lv_iconst (v := (-1)) hx hb gX12_taken_1.2.2.2.1 (by decide) ?_
    refine toQ hQ0 ?_
    exact RP (v := (-1)) hC ((by first | rfl | (simp only [ifc_t ekq, ifc_t hkq, ifc_t ek8, ifc_t hk8, ifc_t ek9, ifc_t hk9, ifc_t hN, ifc_f a6037]; done) | (simp only [ifc_t ekq, ifc_t hkq, ifc_t ek8, ifc_t hk8, ifc_t ek9, ifc_t hk9, ifc_t hN, ifc_f a6037]; rfl))) rfl gX12_taken_1.2.2.2.2.1
def K_m_began (l : Launch) (G : GG) (h0 : Nat) (bo : Int32) (nw : Nat) (nk : Nat) (mhasKept : Int32) (nt : Nat) (mtaped : Int32) (nr : Nat) (mrowMany : Int32) (mroundOf : Int32) (mroundFrom : Int32) (mouts : Int32) (nm : Nat) (mfromHour : Int32) (mtoHour : Int32) (ns : Nat) (mfrom : Int32) (mto : Int32) (msort : Int32) (misFault : Int32) (mdeep : Int32) (mcoded : Int32) (mlines : Int32) (nl : Nat) (nc : Nat) (nF : Nat) (np : Nat) (ntr : Nat) (nb : Nat) (mbestCost : Int32) (nso : Nat) (nsi : Nat) (nit : Nat) (nsh : Nat) (nsf : Nat) (nss : Nat) (nrc : Nat) (jr : Nat) (mdealer : Int32) (mnumber : Int32) (mwhose : Int32) (msize : Int32) (misParted : Int32) (fnrc : Nat → Int32) : Prop := MV l G yX12_began cX12_began 2 1 0 0 [.ref h0, .int bo] [(h0, oX12 nw nk mhasKept nt mtaped nr mrowMany mroundOf mroundFrom mouts nm mfromHour mtoHour ns mfrom mto msort misFault mdeep mcoded mlines nl nc nF np ntr nb mbestCost nso nsi nit nsh nsf nss nrc (nI jr) mdealer mnumber mwhose msize misParted), (nrc, iA G 30 fnrc)] (fun u : Nat × (Nat → Int32) => u.1 ≤ 30) (fun u : Nat × (Nat → Int32) => [(h0, oX12 nw nk mhasKept nt mtaped nr mrowMany mroundOf mroundFrom mouts nm mfromHour mtoHour ns mfrom mto msort misFault mdeep mcoded mlines nl nc nF np ntr nb mbestCost nso nsi nit nsh nsf nss nrc (nI u.1) mdealer mnumber mwhose msize misParted), (nrc, iA G 30 u.2)])
set_option maxHeartbeats 4000000 in
set_option maxRecDepth 100000 in
theorem m_began (l : Launch) (G : GG) (h0 : Nat) (bo : Int32) (nw : Nat) (nk : Nat) (mhasKept : Int32) (nt : Nat) (mtaped : Int32) (nr : Nat) (mrowMany : Int32) (mroundOf : Int32) (mroundFrom : Int32) (mouts : Int32) (nm : Nat) (mfromHour : Int32) (mtoHour : Int32) (ns : Nat) (mfrom : Int32) (mto : Int32) (msort : Int32) (misFault : Int32) (mdeep : Int32) (mcoded : Int32) (mlines : Int32) (nl : Nat) (nc : Nat) (nF : Nat) (np : Nat) (ntr : Nat) (nb : Nat) (mbestCost : Int32) (nso : Nat) (nsi : Nat) (nit : Nat) (nsh : Nat) (nsf : Nat) (nss : Nat) (nrc : Nat) (jr : Nat) (mdealer : Int32) (mnumber : Int32) (mwhose : Int32) (msize : Int32) (misParted : Int32) (fnrc : Nat → Int32) (hjr : jr ≤ 30) : K_m_began l G h0 bo nw nk mhasKept nt mtaped nr mrowMany mroundOf mroundFrom mouts nm mfromHour mtoHour ns mfrom mto msort misFault mdeep mcoded mlines nl nc nF np ntr nb mbestCost nso nsi nit nsh nsf nss nrc jr mdealer mnumber mwhose msize misParted fnrc := by
  refine MV.start (by decide +kernel) (Nat.le_of_ble_eq_true rfl) ?_
  intro p e s m below meth c A ls hC hK hP hD hS hA hl
  refine absQ (fun Q0 hQ0 => ?_)
  have hl : lv_has ls 2 [(0, .ref h0), (1, .int bo)] := hl
  refine Kan8 hC (fun hx hb hr hml hB hown hlocks hnm => ?_)
  refine lv_aload_n hx hb gX12_began_0.1 rfl (lv_at0 hl) ?_
  refine gf_X12_351 hC rfl hK hP 0 rfl rfl gX12_began_0.2.1 ?_
  refine lv_bipush (v := 30) hx hb gX12_began_0.2.2.1 (by decide) ?_
  refine lv_icmp_ge (tgt := 29) hx hb gX12_began_0.2.2.2.1 (by decide) (fun c_6_6146 => ?_) (fun c_6_6146 => ?_)
  · refine toQ hQ0 ?_
    exact RV hC hP hD hS [0, 1] (jr, fnrc) rfl rfl (by decide) (by omega) gX12_began_1.2.2.2.2.2.2
  · have hjr9 := nge_nat (R := 30) (k := jr) (by decide) (by omega) c_6_6146
    refine lv_aload_n hx hb gX12_began_0.2.2.2.2.1 rfl (lv_at0 hl) ?_
    refine gf_X12_81 hC rfl hK hP 0 rfl rfl gX12_began_0.2.2.2.2.2.1 ?_
    refine lv_aload_n hx hb gX12_began_0.2.2.2.2.2.2.1 rfl (lv_at0 hl) ?_
    refine gf_X12_351 hC rfl hK hP 0 rfl rfl gX12_began_0.2.2.2.2.2.2.2.1 ?_
    refine lv_iload_n hx hb gX12_began_0.2.2.2.2.2.2.2.2.1 rfl (lv_at1 hl) ?_
    refine astN hC hK hP hD hS 1 (ws' := [(h0, oX12 nw nk mhasKept nt mtaped nr mrowMany mroundOf mroundFrom mouts nm mfromHour mtoHour ns mfrom mto msort misFault mdeep mcoded mlines nl nc nF np ntr nb mbestCost nso nsi nit nsh nsf nss nrc (nI jr) mdealer mnumber mwhose msize misParted), (nrc, iA G 30 (upd fnrc jr bo))]) rfl (k := jr) (by omega) (Nat.le_of_ble_eq_true rfl) (rfl) gX12_began_0.2.2.2.2.2.2.2.2.2 (fun H locs hP hD hS => ?_)
    refine lv_aload_n hx hb gX12_began_1.1 rfl (lv_at0 hl) ?_
    refine lv_dup hx hb gX12_began_1.2.1 rfl ?_
    refine gf_X12_351 hC rfl hK hP 0 rfl rfl gX12_began_1.2.2.1 ?_
    refine lv_iconst (v := 1) hx hb gX12_began_1.2.2.2.1 (by decide) ?_
    refine lv_iadd hx hb gX12_began_1.2.2.2.2.1 ?_
    refine eqi (x1 := nI (jr + 1)) (nI_add jr 1) ?_
    refine pf_X12_351 hC rfl hK hP hD hS 0 (ws' := [(h0, oX12 nw nk mhasKept nt mtaped nr mrowMany mroundOf mroundFrom mouts nm mfromHour mtoHour ns mfrom mto msort misFault mdeep mcoded mlines nl nc nF np ntr nb mbestCost nso nsi nit nsh nsf nss nrc (nI (jr + 1)) mdealer mnumber mwhose msize misParted), (nrc, iA G 30 (upd fnrc jr bo))]) rfl (Nat.le_of_ble_eq_true rfl) rfl rfl rfl gX12_began_1.2.2.2.2.2.1 (fun H locs hP hD hS => ?_)
    refine toQ hQ0 ?_
    exact RV hC hP hD hS [0, 1] ((jr + 1), upd fnrc jr bo) rfl rfl (by decide) (by omega) gX12_began_1.2.2.2.2.2.2
def K_m_body00 (l : Launch) (G : GG) (h0 : Nat) (xx : Int32) (nw : Nat) (nk : Nat) (mhasKept : Int32) (nt : Nat) (mtaped : Int32) (nr : Nat) (mrowMany : Int32) (mroundOf : Int32) (mroundFrom : Int32) (mouts : Int32) (nm : Nat) (mfromHour : Int32) (mtoHour : Int32) (ns : Nat) (mfrom : Int32) (mto : Int32) (msort : Int32) (misFault : Int32) (mdeep : Int32) (mcoded : Int32) (mlines : Int32) (nl : Nat) (nc : Nat) (nF : Nat) (np : Nat) (ntr : Nat) (nb : Nat) (mbestCost : Int32) (nso : Nat) (nsi : Nat) (nit : Nat) (nsh : Nat) (nsf : Nat) (nss : Nat) (nrc : Nat) (jr : Nat) (jd : Nat) (mnumber : Int32) (mwhose : Int32) (msize : Int32) (misParted : Int32) (fnrc : Nat → Int32) : Prop := MI l G yX12_body cX12_body 6 (some .int) 3 0 0 [.ref h0, .int 0, .int 0, .int xx] [(h0, oX12 nw nk mhasKept nt mtaped nr mrowMany mroundOf mroundFrom mouts nm mfromHour mtoHour ns mfrom mto msort misFault mdeep mcoded mlines nl nc nF np ntr nb mbestCost nso nsi nit nsh nsf nss nrc (nI jr) (nI jd) mnumber mwhose msize misParted), (nrc, iA G 30 fnrc)] (fun (r : Int32) (u : Nat × Int32 × (Nat → Int32)) => (True) ∧ (u.1 ≤ 30)) (fun u : Nat × Int32 × (Nat → Int32) => [(h0, oX12 nw nk mhasKept nt mtaped nr mrowMany mroundOf mroundFrom mouts nm mfromHour mtoHour ns mfrom mto msort misFault mdeep mcoded mlines nl nc nF np ntr nb mbestCost nso nsi nit nsh nsf nss nrc (nI u.1) (nI jd) mnumber mwhose msize u.2.1), (nrc, iA G 30 u.2.2)])
set_option maxHeartbeats 4000000 in
set_option maxRecDepth 100000 in
theorem m_body00 (l : Launch) (G : GG) (h0 : Nat) (xx : Int32) (nw : Nat) (nk : Nat) (mhasKept : Int32) (nt : Nat) (mtaped : Int32) (nr : Nat) (mrowMany : Int32) (mroundOf : Int32) (mroundFrom : Int32) (mouts : Int32) (nm : Nat) (mfromHour : Int32) (mtoHour : Int32) (ns : Nat) (mfrom : Int32) (mto : Int32) (msort : Int32) (misFault : Int32) (mdeep : Int32) (mcoded : Int32) (mlines : Int32) (nl : Nat) (nc : Nat) (nF : Nat) (np : Nat) (ntr : Nat) (nb : Nat) (mbestCost : Int32) (nso : Nat) (nsi : Nat) (nit : Nat) (nsh : Nat) (nsf : Nat) (nss : Nat) (nrc : Nat) (jr : Nat) (jd : Nat) (mnumber : Int32) (mwhose : Int32) (msize : Int32) (misParted : Int32) (fnrc : Nat → Int32) (hjr : jr ≤ 30) (hjd : jd < 7) : K_m_body00 l G h0 xx nw nk mhasKept nt mtaped nr mrowMany mroundOf mroundFrom mouts nm mfromHour mtoHour ns mfrom mto msort misFault mdeep mcoded mlines nl nc nF np ntr nb mbestCost nso nsi nit nsh nsf nss nrc jr jd mnumber mwhose msize misParted fnrc := by
  refine MI.start (by decide +kernel) (Nat.le_of_ble_eq_true rfl) ?_
  intro p e s m below meth c A ls hC hK hP hD hS hA hl
  refine absQ (fun Q0 hQ0 => ?_)
  have hl : lv_has ls 6 [(0, .ref h0), (1, .int 0), (2, .int 0), (3, .int xx)] := hl
  refine Kan8 hC (fun hx hb hr hml hB hown hlocks hnm => ?_)
  refine lv_iconst (v := 4) hx hb gX12_body_0.1 (by decide) ?_
  refine lv_iload_n hx hb gX12_body_0.2.1 rfl (lv_at1 hl) ?_
  refine lv_imul hx hb gX12_body_0.2.2.1 ?_
  refine eqi (x1 := 0) (by decide) ?_
  refine lv_iload_n hx hb gX12_body_0.2.2.2.1 rfl (lv_at2 hl) ?_
  refine lv_iadd hx hb gX12_body_0.2.2.2.2.1 ?_
  refine eqi (x1 := 0) (by decide) ?_
  refine lv_tableIn (tgt := 112) hx hb gX12_body_0.2.2.2.2.2.1 (by decide) (by decide) rfl (by decide) ?_
  refine lv_aload_n hx hb gX12_body_0.2.2.2.2.2.2.1 rfl (lv_at0 hl) ?_
  refine lv_bipush (v := 10) hx hb gX12_body_0.2.2.2.2.2.2.2.1 (by decide) ?_
  refine vV (wr := []) hC hK hl hP hD hS hA (m_began l G h0 10 nw nk mhasKept nt mtaped nr mrowMany mroundOf mroundFrom mouts nm mfromHour mtoHour ns mfrom mto msort misFault mdeep mcoded mlines nl nc nF np ntr nb mbestCost nso nsi nit nsh nsf nss nrc jr (nI jd) mnumber mwhose msize misParted fnrc (hjr)) si_X12_366 [0, 1] [] sm_0_1 fm_0_1 nd_0_1 rfl rfl (by decide) rfl rfl rfl rfl rfl (Nat.le_of_ble_eq_true rfl) rm_3_1_2 ⟨Nat.le_of_ble_eq_true rfl, Nat.le_of_ble_eq_true rfl⟩ gX12_body_0.2.2.2.2.2.2.2.2.1 (Ktu2 fun jr16149 gtrc6150 => ?_)
  intro H locs hr6147 hP hD hS
  try dsimp only at hr6147
  refine Kpdr (ws := [(h0, oX12 nw nk mhasKept nt mtaped nr mrowMany mroundOf mroundFrom mouts nm mfromHour mtoHour ns mfrom mto msort misFault mdeep mcoded mlines nl nc nF np ntr nb mbestCost nso nsi nit nsh nsf nss nrc (nI jr16149) (nI jd) mnumber mwhose msize misParted), (nrc, iA G 30 gtrc6150)]) hP hD (fun hP hD => ?_)
  have w6151 := hr6147
  refine lv_iload_n hx hb gX12_body_0.2.2.2.2.2.2.2.2.2 rfl (lv_at3 hl) ?_
  refine lv_aload_n hx hb gX12_body_1.1 rfl (lv_at0 hl) ?_
  refine gf_X12_369 hC rfl hK hP 0 rfl rfl gX12_body_1.2.1 ?_
  refine lv_iadd hx hb gX12_body_1.2.2.1 ?_
  refine toQ hQ0 ?_
  exact RI (v := xx + msize) hC hP hD hS [0, 1] (jr16149, misParted, gtrc6150) rfl rfl (by decide) (⟨trivial, by omega⟩) rfl gX12_body_1.2.2.2.1
def K_m_from00 (l : Launch) (G : GG) (h0 : Nat) (xx : Int32) (nw : Nat) (nk : Nat) (mhasKept : Int32) (nt : Nat) (mtaped : Int32) (nr : Nat) (mrowMany : Int32) (mroundOf : Int32) (mroundFrom : Int32) (mouts : Int32) (nm : Nat) (mfromHour : Int32) (mtoHour : Int32) (ns : Nat) (mfrom : Int32) (mto : Int32) (msort : Int32) (misFault : Int32) (mdeep : Int32) (mcoded : Int32) (mlines : Int32) (nl : Nat) (nc : Nat) (nF : Nat) (np : Nat) (ntr : Nat) (nb : Nat) (mbestCost : Int32) (nso : Nat) (nsi : Nat) (nit : Nat) (nsh : Nat) (nsf : Nat) (nss : Nat) (nrc : Nat) (jr : Nat) (jd : Nat) (mnumber : Int32) (mwhose : Int32) (msize : Int32) (misParted : Int32) (fnrc : Nat → Int32) : Prop := MI l G yX12_bodyFrom cX12_bodyFrom 5 (some .int) 4 0 0 [.ref h0, .int 0, .int 0, .int xx] [(h0, oX12 nw nk mhasKept nt mtaped nr mrowMany mroundOf mroundFrom mouts nm mfromHour mtoHour ns mfrom mto msort misFault mdeep mcoded mlines nl nc nF np ntr nb mbestCost nso nsi nit nsh nsf nss nrc (nI jr) (nI jd) mnumber mwhose msize misParted), (nrc, iA G 30 fnrc)] (fun (r : Int32) (u : Nat × Int32 × (Nat → Int32)) => (True) ∧ (u.1 ≤ 30)) (fun u : Nat × Int32 × (Nat → Int32) => [(h0, oX12 nw nk mhasKept nt mtaped nr mrowMany mroundOf mroundFrom mouts nm mfromHour mtoHour ns mfrom mto msort misFault mdeep mcoded mlines nl nc nF np ntr nb mbestCost nso nsi nit nsh nsf nss nrc (nI u.1) (nI jd) mnumber mwhose msize u.2.1), (nrc, iA G 30 u.2.2)])
set_option maxHeartbeats 4000000 in
set_option maxRecDepth 100000 in
theorem m_from00 (l : Launch) (G : GG) (h0 : Nat) (xx : Int32) (nw : Nat) (nk : Nat) (mhasKept : Int32) (nt : Nat) (mtaped : Int32) (nr : Nat) (mrowMany : Int32) (mroundOf : Int32) (mroundFrom : Int32) (mouts : Int32) (nm : Nat) (mfromHour : Int32) (mtoHour : Int32) (ns : Nat) (mfrom : Int32) (mto : Int32) (msort : Int32) (misFault : Int32) (mdeep : Int32) (mcoded : Int32) (mlines : Int32) (nl : Nat) (nc : Nat) (nF : Nat) (np : Nat) (ntr : Nat) (nb : Nat) (mbestCost : Int32) (nso : Nat) (nsi : Nat) (nit : Nat) (nsh : Nat) (nsf : Nat) (nss : Nat) (nrc : Nat) (jr : Nat) (jd : Nat) (mnumber : Int32) (mwhose : Int32) (msize : Int32) (misParted : Int32) (fnrc : Nat → Int32) (hjr : jr ≤ 30) (hjd : jd < 7) : K_m_from00 l G h0 xx nw nk mhasKept nt mtaped nr mrowMany mroundOf mroundFrom mouts nm mfromHour mtoHour ns mfrom mto msort misFault mdeep mcoded mlines nl nc nF np ntr nb mbestCost nso nsi nit nsh nsf nss nrc jr jd mnumber mwhose msize misParted fnrc := by
  refine MI.start (by decide +kernel) (Nat.le_of_ble_eq_true rfl) ?_
  intro p e s m below meth c A ls hC hK hP hD hS hA hl
  refine absQ (fun Q0 hQ0 => ?_)
  have hl : lv_has ls 5 [(0, .ref h0), (1, .int 0), (2, .int 0), (3, .int xx)] := hl
  refine Kan8 hC (fun hx hb hr hml hB hown hlocks hnm => ?_)
  refine lv_iload_n hx hb gX12_bodyFrom_0.1 rfl (lv_at1 hl) ?_
  refine lv_istore (lv' := [(4, .int 0), (0, .ref h0), (1, .int 0), (2, .int 0), (3, .int xx)]) hx hb gX12_bodyFrom_0.2.1 hl (by decide) rfl (fun ls hl => ?_)
  refine lv_iload hx hb gX12_bodyFrom_0.2.2.1 (lv_at0 hl) ?_
  refine lv_iload_n hx hb gX12_bodyFrom_0.2.2.2.1 rfl (lv_at3 hl) ?_
  refine pS hC hK hl (m_hasOwn00 l G) si_X12_360 rfl rfl (Nat.le_of_ble_eq_true rfl) rm_4_1_2 ⟨by first | exact Nat.le_of_ble_eq_true rfl | exact Nat.zero_le _, by first | exact Nat.le_of_ble_eq_true rfl | exact Nat.zero_le _⟩ gX12_bodyFrom_0.2.2.2.2.1 (Keqr ?_)
  refine lv_if_ne (tgt := 22) hx hb gX12_bodyFrom_0.2.2.2.2.2.1 (by decide) (fun _ => ?_) (fun c9 => absurd c9 (by decide))
  refine lv_aload_n hx hb gX12_bodyFrom_1.1 rfl (lv_at1 hl) ?_
  refine lv_iload hx hb gX12_bodyFrom_1.2.1 (lv_at0 hl) ?_
  refine lv_iload_n hx hb gX12_bodyFrom_1.2.2.1 rfl (lv_at3 hl) ?_
  refine lv_iload_n hx hb gX12_bodyFrom_1.2.2.2.1 rfl (lv_at4 hl) ?_
  refine iV (wr := []) hC hK hl hP hD hS hA (m_body00 l G h0 xx nw nk mhasKept nt mtaped nr mrowMany mroundOf mroundFrom mouts nm mfromHour mtoHour ns mfrom mto msort misFault mdeep mcoded mlines nl nc nF np ntr nb mbestCost nso nsi nit nsh nsf nss nrc jr jd mnumber mwhose msize misParted fnrc (hjr) (hjd)) si_X12_363 [0, 1] [] sm_0_1 fm_0_1 nd_0_1 rfl rfl (by decide) rfl rfl rfl rfl rfl (Nat.le_of_ble_eq_true rfl) rm_4_3_6 ⟨Nat.le_of_ble_eq_true rfl, Nat.le_of_ble_eq_true rfl⟩ gX12_bodyFrom_1.2.2.2.2.1 (fun r6154 => Ktu3 fun jr16156 ip16157 gtrc6158 => ?_)
  intro H locs hr6154 hP hD hS
  try dsimp only at hr6154
  refine Kpdr (ws := [(h0, oX12 nw nk mhasKept nt mtaped nr mrowMany mroundOf mroundFrom mouts nm mfromHour mtoHour ns mfrom mto msort misFault mdeep mcoded mlines nl nc nF np ntr nb mbestCost nso nsi nit nsh nsf nss nrc (nI jr16156) (nI jd) mnumber mwhose msize ip16157), (nrc, iA G 30 gtrc6158)]) hP hD (fun hP hD => ?_)
  obtain ⟨hr6154, w6159⟩ := hr6154
  refine toQ hQ0 ?_
  exact RI (v := r6154) hC hP hD hS [0, 1] (jr16156, ip16157, gtrc6158) rfl rfl (by decide) (⟨trivial, by omega⟩) rfl gX12_bodyFrom_1.2.2.2.2.2
def K_m_body40 (l : Launch) (G : GG) (h0 : Nat) (xx : Int32) (nw : Nat) (nk : Nat) (mhasKept : Int32) (nt : Nat) (mtaped : Int32) (nr : Nat) (mrowMany : Int32) (mroundOf : Int32) (mroundFrom : Int32) (mouts : Int32) (nm : Nat) (mfromHour : Int32) (mtoHour : Int32) (ns : Nat) (mfrom : Int32) (mto : Int32) (msort : Int32) (misFault : Int32) (mdeep : Int32) (mcoded : Int32) (mlines : Int32) (nl : Nat) (nc : Nat) (nF : Nat) (np : Nat) (ntr : Nat) (nb : Nat) (mbestCost : Int32) (nso : Nat) (nsi : Nat) (nit : Nat) (nsh : Nat) (nsf : Nat) (nss : Nat) (nrc : Nat) (jr : Nat) (jd : Nat) (mnumber : Int32) (mwhose : Int32) (msize : Int32) (misParted : Int32) (fnrc : Nat → Int32) : Prop := MI l G yX12_body cX12_body 6 (some .int) 5 0 0 [.ref h0, .int 4, .int 0, .int xx] [(h0, oX12 nw nk mhasKept nt mtaped nr mrowMany mroundOf mroundFrom mouts nm mfromHour mtoHour ns mfrom mto msort misFault mdeep mcoded mlines nl nc nF np ntr nb mbestCost nso nsi nit nsh nsf nss nrc (nI jr) (nI jd) mnumber mwhose msize misParted), (nrc, iA G 30 fnrc)] (fun (r : Int32) (u : Nat × Int32 × (Nat → Int32)) => (True) ∧ (u.1 ≤ 30)) (fun u : Nat × Int32 × (Nat → Int32) => [(h0, oX12 nw nk mhasKept nt mtaped nr mrowMany mroundOf mroundFrom mouts nm mfromHour mtoHour ns mfrom mto msort misFault mdeep mcoded mlines nl nc nF np ntr nb mbestCost nso nsi nit nsh nsf nss nrc (nI u.1) (nI jd) mnumber mwhose msize u.2.1), (nrc, iA G 30 u.2.2)])
set_option maxHeartbeats 4000000 in
set_option maxRecDepth 100000 in
theorem m_body40 (l : Launch) (G : GG) (h0 : Nat) (xx : Int32) (nw : Nat) (nk : Nat) (mhasKept : Int32) (nt : Nat) (mtaped : Int32) (nr : Nat) (mrowMany : Int32) (mroundOf : Int32) (mroundFrom : Int32) (mouts : Int32) (nm : Nat) (mfromHour : Int32) (mtoHour : Int32) (ns : Nat) (mfrom : Int32) (mto : Int32) (msort : Int32) (misFault : Int32) (mdeep : Int32) (mcoded : Int32) (mlines : Int32) (nl : Nat) (nc : Nat) (nF : Nat) (np : Nat) (ntr : Nat) (nb : Nat) (mbestCost : Int32) (nso : Nat) (nsi : Nat) (nit : Nat) (nsh : Nat) (nsf : Nat) (nss : Nat) (nrc : Nat) (jr : Nat) (jd : Nat) (mnumber : Int32) (mwhose : Int32) (msize : Int32) (misParted : Int32) (fnrc : Nat → Int32) (hjr : jr ≤ 30) (hjd : jd < 7) : K_m_body40 l G h0 xx nw nk mhasKept nt mtaped nr mrowMany mroundOf mroundFrom mouts nm mfromHour mtoHour ns mfrom mto msort misFault mdeep mcoded mlines nl nc nF np ntr nb mbestCost nso nsi nit nsh nsf nss nrc jr jd mnumber mwhose msize misParted fnrc := by
  refine MI.start (by decide +kernel) (Nat.le_of_ble_eq_true rfl) ?_
  intro p e s m below meth c A ls hC hK hP hD hS hA hl
  refine absQ (fun Q0 hQ0 => ?_)
  have hl : lv_has ls 6 [(0, .ref h0), (1, .int 4), (2, .int 0), (3, .int xx)] := hl
  refine Kan8 hC (fun hx hb hr hml hB hown hlocks hnm => ?_)
  refine lv_iconst (v := 4) hx hb gX12_body_0.1 (by decide) ?_
  refine lv_iload_n hx hb gX12_body_0.2.1 rfl (lv_at1 hl) ?_
  refine lv_imul hx hb gX12_body_0.2.2.1 ?_
  refine eqi (x1 := 16) (by decide) ?_
  refine lv_iload_n hx hb gX12_body_0.2.2.2.1 rfl (lv_at2 hl) ?_
  refine lv_iadd hx hb gX12_body_0.2.2.2.2.1 ?_
  refine eqi (x1 := 16) (by decide) ?_
  refine lv_tableIn (tgt := 274) hx hb gX12_body_0.2.2.2.2.2.1 (by decide) (by decide) rfl (by decide) ?_
  refine lv_aload_n hx hb gX12_body_10.2.2.2.2.2.2.1 rfl (lv_at0 hl) ?_
  refine lv_bipush (v := 50) hx hb gX12_body_10.2.2.2.2.2.2.2.1 (by decide) ?_
  refine vV (wr := []) hC hK hl hP hD hS hA (m_began l G h0 50 nw nk mhasKept nt mtaped nr mrowMany mroundOf mroundFrom mouts nm mfromHour mtoHour ns mfrom mto msort misFault mdeep mcoded mlines nl nc nF np ntr nb mbestCost nso nsi nit nsh nsf nss nrc jr (nI jd) mnumber mwhose msize misParted fnrc (hjr)) si_X12_366 [0, 1] [] sm_0_1 fm_0_1 nd_0_1 rfl rfl (by decide) rfl rfl rfl rfl rfl (Nat.le_of_ble_eq_true rfl) rm_5_1_2 ⟨Nat.le_of_ble_eq_true rfl, Nat.le_of_ble_eq_true rfl⟩ gX12_body_10.2.2.2.2.2.2.2.2.1 (Ktu2 fun jr16162 gtrc6163 => ?_)
  intro H locs hr6160 hP hD hS
  try dsimp only at hr6160
  refine Kpdr (ws := [(h0, oX12 nw nk mhasKept nt mtaped nr mrowMany mroundOf mroundFrom mouts nm mfromHour mtoHour ns mfrom mto msort misFault mdeep mcoded mlines nl nc nF np ntr nb mbestCost nso nsi nit nsh nsf nss nrc (nI jr16162) (nI jd) mnumber mwhose msize misParted), (nrc, iA G 30 gtrc6163)]) hP hD (fun hP hD => ?_)
  have w6164 := hr6160
  refine lv_aload_n hx hb gX12_body_10.2.2.2.2.2.2.2.2.2 rfl (lv_at0 hl) ?_
  refine lv_iconst (v := 0) hx hb gX12_body_11.1 (by decide) ?_
  refine lv_iconst (v := 0) hx hb gX12_body_11.2.1 (by decide) ?_
  refine lv_iload_n hx hb gX12_body_11.2.2.1 rfl (lv_at3 hl) ?_
  refine iV (wr := []) hC hK hl hP hD hS hA (m_from00 l G h0 xx nw nk mhasKept nt mtaped nr mrowMany mroundOf mroundFrom mouts nm mfromHour mtoHour ns mfrom mto msort misFault mdeep mcoded mlines nl nc nF np ntr nb mbestCost nso nsi nit nsh nsf nss nrc jr16162 jd mnumber mwhose msize misParted gtrc6163 (w6164) (hjd)) si_X12_357 [0, 1] [] sm_0_1 fm_0_1 nd_0_1 rfl rfl (by decide) rfl rfl rfl rfl rfl (Nat.le_of_ble_eq_true rfl) rm_5_4_5 ⟨Nat.le_of_ble_eq_true rfl, Nat.le_of_ble_eq_true rfl⟩ gX12_body_11.2.2.2.1 (fun r6165 => Ktu3 fun jr16167 ip16168 gtrc6169 => ?_)
  intro H locs hr6165 hP hD hS
  try dsimp only at hr6165
  refine Kpdr (ws := [(h0, oX12 nw nk mhasKept nt mtaped nr mrowMany mroundOf mroundFrom mouts nm mfromHour mtoHour ns mfrom mto msort misFault mdeep mcoded mlines nl nc nF np ntr nb mbestCost nso nsi nit nsh nsf nss nrc (nI jr16167) (nI jd) mnumber mwhose msize ip16168), (nrc, iA G 30 gtrc6169)]) hP hD (fun hP hD => ?_)
  obtain ⟨hr6165, w6170⟩ := hr6165
  refine lv_aload_n hx hb gX12_body_11.2.2.2.2.1 rfl (lv_at0 hl) ?_
  refine gf_X12_378 hC rfl hK hP 0 rfl rfl gX12_body_11.2.2.2.2.2.1 ?_
  refine lv_isub hx hb gX12_body_11.2.2.2.2.2.2.1 ?_
  refine toQ hQ0 ?_
  exact RI (v := r6165 - mnumber) hC hP hD hS [0, 1] (jr16167, ip16168, gtrc6169) rfl rfl (by decide) (⟨trivial, by omega⟩) rfl gX12_body_11.2.2.2.2.2.2.2.1
def K_m_from40 (l : Launch) (G : GG) (h0 : Nat) (xx : Int32) (nw : Nat) (nk : Nat) (mhasKept : Int32) (nt : Nat) (mtaped : Int32) (nr : Nat) (mrowMany : Int32) (mroundOf : Int32) (mroundFrom : Int32) (mouts : Int32) (nm : Nat) (mfromHour : Int32) (mtoHour : Int32) (ns : Nat) (mfrom : Int32) (mto : Int32) (msort : Int32) (misFault : Int32) (mdeep : Int32) (mcoded : Int32) (mlines : Int32) (nl : Nat) (nc : Nat) (nF : Nat) (np : Nat) (ntr : Nat) (nb : Nat) (mbestCost : Int32) (nso : Nat) (nsi : Nat) (nit : Nat) (nsh : Nat) (nsf : Nat) (nss : Nat) (nrc : Nat) (jr : Nat) (jd : Nat) (mnumber : Int32) (mwhose : Int32) (msize : Int32) (misParted : Int32) (fnrc : Nat → Int32) : Prop := MI l G yX12_bodyFrom cX12_bodyFrom 5 (some .int) 6 0 0 [.ref h0, .int 4, .int 0, .int xx] [(h0, oX12 nw nk mhasKept nt mtaped nr mrowMany mroundOf mroundFrom mouts nm mfromHour mtoHour ns mfrom mto msort misFault mdeep mcoded mlines nl nc nF np ntr nb mbestCost nso nsi nit nsh nsf nss nrc (nI jr) (nI jd) mnumber mwhose msize misParted), (nrc, iA G 30 fnrc)] (fun (r : Int32) (u : Nat × Int32 × (Nat → Int32)) => (True) ∧ (u.1 ≤ 30)) (fun u : Nat × Int32 × (Nat → Int32) => [(h0, oX12 nw nk mhasKept nt mtaped nr mrowMany mroundOf mroundFrom mouts nm mfromHour mtoHour ns mfrom mto msort misFault mdeep mcoded mlines nl nc nF np ntr nb mbestCost nso nsi nit nsh nsf nss nrc (nI u.1) (nI jd) mnumber mwhose msize u.2.1), (nrc, iA G 30 u.2.2)])
set_option maxHeartbeats 4000000 in
set_option maxRecDepth 100000 in
theorem m_from40 (l : Launch) (G : GG) (h0 : Nat) (xx : Int32) (nw : Nat) (nk : Nat) (mhasKept : Int32) (nt : Nat) (mtaped : Int32) (nr : Nat) (mrowMany : Int32) (mroundOf : Int32) (mroundFrom : Int32) (mouts : Int32) (nm : Nat) (mfromHour : Int32) (mtoHour : Int32) (ns : Nat) (mfrom : Int32) (mto : Int32) (msort : Int32) (misFault : Int32) (mdeep : Int32) (mcoded : Int32) (mlines : Int32) (nl : Nat) (nc : Nat) (nF : Nat) (np : Nat) (ntr : Nat) (nb : Nat) (mbestCost : Int32) (nso : Nat) (nsi : Nat) (nit : Nat) (nsh : Nat) (nsf : Nat) (nss : Nat) (nrc : Nat) (jr : Nat) (jd : Nat) (mnumber : Int32) (mwhose : Int32) (msize : Int32) (misParted : Int32) (fnrc : Nat → Int32) (hjr : jr ≤ 30) (hjd : jd < 7) : K_m_from40 l G h0 xx nw nk mhasKept nt mtaped nr mrowMany mroundOf mroundFrom mouts nm mfromHour mtoHour ns mfrom mto msort misFault mdeep mcoded mlines nl nc nF np ntr nb mbestCost nso nsi nit nsh nsf nss nrc jr jd mnumber mwhose msize misParted fnrc := by
  refine MI.start (by decide +kernel) (Nat.le_of_ble_eq_true rfl) ?_
  intro p e s m below meth c A ls hC hK hP hD hS hA hl
  refine absQ (fun Q0 hQ0 => ?_)
  have hl : lv_has ls 5 [(0, .ref h0), (1, .int 4), (2, .int 0), (3, .int xx)] := hl
  refine Kan8 hC (fun hx hb hr hml hB hown hlocks hnm => ?_)
  refine lv_iload_n hx hb gX12_bodyFrom_0.1 rfl (lv_at1 hl) ?_
  refine lv_istore (lv' := [(4, .int 4), (0, .ref h0), (1, .int 4), (2, .int 0), (3, .int xx)]) hx hb gX12_bodyFrom_0.2.1 hl (by decide) rfl (fun ls hl => ?_)
  refine lv_iload hx hb gX12_bodyFrom_0.2.2.1 (lv_at0 hl) ?_
  refine lv_iload_n hx hb gX12_bodyFrom_0.2.2.2.1 rfl (lv_at3 hl) ?_
  refine pS hC hK hl (m_hasOwn40 l G) si_X12_360 rfl rfl (Nat.le_of_ble_eq_true rfl) rm_6_1_2 ⟨by first | exact Nat.le_of_ble_eq_true rfl | exact Nat.zero_le _, by first | exact Nat.le_of_ble_eq_true rfl | exact Nat.zero_le _⟩ gX12_bodyFrom_0.2.2.2.2.1 (Keqr ?_)
  refine lv_if_ne (tgt := 22) hx hb gX12_bodyFrom_0.2.2.2.2.2.1 (by decide) (fun _ => ?_) (fun c9 => absurd c9 (by decide))
  refine lv_aload_n hx hb gX12_bodyFrom_1.1 rfl (lv_at1 hl) ?_
  refine lv_iload hx hb gX12_bodyFrom_1.2.1 (lv_at0 hl) ?_
  refine lv_iload_n hx hb gX12_bodyFrom_1.2.2.1 rfl (lv_at3 hl) ?_
  refine lv_iload_n hx hb gX12_bodyFrom_1.2.2.2.1 rfl (lv_at4 hl) ?_
  refine iV (wr := []) hC hK hl hP hD hS hA (m_body40 l G h0 xx nw nk mhasKept nt mtaped nr mrowMany mroundOf mroundFrom mouts nm mfromHour mtoHour ns mfrom mto msort misFault mdeep mcoded mlines nl nc nF np ntr nb mbestCost nso nsi nit nsh nsf nss nrc jr jd mnumber mwhose msize misParted fnrc (hjr) (hjd)) si_X12_363 [0, 1] [] sm_0_1 fm_0_1 nd_0_1 rfl rfl (by decide) rfl rfl rfl rfl rfl (Nat.le_of_ble_eq_true rfl) rm_6_5_6 ⟨Nat.le_of_ble_eq_true rfl, Nat.le_of_ble_eq_true rfl⟩ gX12_bodyFrom_1.2.2.2.2.1 (fun r6173 => Ktu3 fun jr16175 ip16176 gtrc6177 => ?_)
  intro H locs hr6173 hP hD hS
  try dsimp only at hr6173
  refine Kpdr (ws := [(h0, oX12 nw nk mhasKept nt mtaped nr mrowMany mroundOf mroundFrom mouts nm mfromHour mtoHour ns mfrom mto msort misFault mdeep mcoded mlines nl nc nF np ntr nb mbestCost nso nsi nit nsh nsf nss nrc (nI jr16175) (nI jd) mnumber mwhose msize ip16176), (nrc, iA G 30 gtrc6177)]) hP hD (fun hP hD => ?_)
  obtain ⟨hr6173, w6178⟩ := hr6173
  refine toQ hQ0 ?_
  exact RI (v := r6173) hC hP hD hS [0, 1] (jr16175, ip16176, gtrc6177) rfl rfl (by decide) (⟨trivial, by omega⟩) rfl gX12_bodyFrom_1.2.2.2.2.2
def K_m_body50 (l : Launch) (G : GG) (h0 : Nat) (xx : Int32) (nw : Nat) (nk : Nat) (mhasKept : Int32) (nt : Nat) (mtaped : Int32) (nr : Nat) (mrowMany : Int32) (mroundOf : Int32) (mroundFrom : Int32) (mouts : Int32) (nm : Nat) (mfromHour : Int32) (mtoHour : Int32) (ns : Nat) (mfrom : Int32) (mto : Int32) (msort : Int32) (misFault : Int32) (mdeep : Int32) (mcoded : Int32) (mlines : Int32) (nl : Nat) (nc : Nat) (nF : Nat) (np : Nat) (ntr : Nat) (nb : Nat) (mbestCost : Int32) (nso : Nat) (nsi : Nat) (nit : Nat) (nsh : Nat) (nsf : Nat) (nss : Nat) (nrc : Nat) (jr : Nat) (jd : Nat) (mnumber : Int32) (mwhose : Int32) (msize : Int32) (misParted : Int32) (fnrc : Nat → Int32) : Prop := MI l G yX12_body cX12_body 6 (some .int) 7 0 0 [.ref h0, .int 5, .int 0, .int xx] [(h0, oX12 nw nk mhasKept nt mtaped nr mrowMany mroundOf mroundFrom mouts nm mfromHour mtoHour ns mfrom mto msort misFault mdeep mcoded mlines nl nc nF np ntr nb mbestCost nso nsi nit nsh nsf nss nrc (nI jr) (nI jd) mnumber mwhose msize misParted), (nrc, iA G 30 fnrc)] (fun (r : Int32) (u : Nat × Int32 × (Nat → Int32)) => (True) ∧ (u.1 ≤ 30)) (fun u : Nat × Int32 × (Nat → Int32) => [(h0, oX12 nw nk mhasKept nt mtaped nr mrowMany mroundOf mroundFrom mouts nm mfromHour mtoHour ns mfrom mto msort misFault mdeep mcoded mlines nl nc nF np ntr nb mbestCost nso nsi nit nsh nsf nss nrc (nI u.1) (nI jd) mnumber mwhose msize u.2.1), (nrc, iA G 30 u.2.2)])
set_option maxHeartbeats 4000000 in
set_option maxRecDepth 100000 in
theorem m_body50 (l : Launch) (G : GG) (h0 : Nat) (xx : Int32) (nw : Nat) (nk : Nat) (mhasKept : Int32) (nt : Nat) (mtaped : Int32) (nr : Nat) (mrowMany : Int32) (mroundOf : Int32) (mroundFrom : Int32) (mouts : Int32) (nm : Nat) (mfromHour : Int32) (mtoHour : Int32) (ns : Nat) (mfrom : Int32) (mto : Int32) (msort : Int32) (misFault : Int32) (mdeep : Int32) (mcoded : Int32) (mlines : Int32) (nl : Nat) (nc : Nat) (nF : Nat) (np : Nat) (ntr : Nat) (nb : Nat) (mbestCost : Int32) (nso : Nat) (nsi : Nat) (nit : Nat) (nsh : Nat) (nsf : Nat) (nss : Nat) (nrc : Nat) (jr : Nat) (jd : Nat) (mnumber : Int32) (mwhose : Int32) (msize : Int32) (misParted : Int32) (fnrc : Nat → Int32) (hjr : jr ≤ 30) (hjd : jd < 7) : K_m_body50 l G h0 xx nw nk mhasKept nt mtaped nr mrowMany mroundOf mroundFrom mouts nm mfromHour mtoHour ns mfrom mto msort misFault mdeep mcoded mlines nl nc nF np ntr nb mbestCost nso nsi nit nsh nsf nss nrc jr jd mnumber mwhose msize misParted fnrc := by
  refine MI.start (by decide +kernel) (Nat.le_of_ble_eq_true rfl) ?_
  intro p e s m below meth c A ls hC hK hP hD hS hA hl
  refine absQ (fun Q0 hQ0 => ?_)
  have hl : lv_has ls 6 [(0, .ref h0), (1, .int 5), (2, .int 0), (3, .int xx)] := hl
  refine Kan8 hC (fun hx hb hr hml hB hown hlocks hnm => ?_)
  refine lv_iconst (v := 4) hx hb gX12_body_0.1 (by decide) ?_
  refine lv_iload_n hx hb gX12_body_0.2.1 rfl (lv_at1 hl) ?_
  refine lv_imul hx hb gX12_body_0.2.2.1 ?_
  refine eqi (x1 := 20) (by decide) ?_
  refine lv_iload_n hx hb gX12_body_0.2.2.2.1 rfl (lv_at2 hl) ?_
  refine lv_iadd hx hb gX12_body_0.2.2.2.2.1 ?_
  refine eqi (x1 := 20) (by decide) ?_
  refine lv_tableIn (tgt := 334) hx hb gX12_body_0.2.2.2.2.2.1 (by decide) (by decide) rfl (by decide) ?_
  refine lv_aload_n hx hb gX12_body_14.2.2.2.2.2.1 rfl (lv_at0 hl) ?_
  refine lv_bipush (v := 61) hx hb gX12_body_14.2.2.2.2.2.2.1 (by decide) ?_
  refine vV (wr := []) hC hK hl hP hD hS hA (m_began l G h0 61 nw nk mhasKept nt mtaped nr mrowMany mroundOf mroundFrom mouts nm mfromHour mtoHour ns mfrom mto msort misFault mdeep mcoded mlines nl nc nF np ntr nb mbestCost nso nsi nit nsh nsf nss nrc jr (nI jd) mnumber mwhose msize misParted fnrc (hjr)) si_X12_366 [0, 1] [] sm_0_1 fm_0_1 nd_0_1 rfl rfl (by decide) rfl rfl rfl rfl rfl (Nat.le_of_ble_eq_true rfl) rm_7_1_2 ⟨Nat.le_of_ble_eq_true rfl, Nat.le_of_ble_eq_true rfl⟩ gX12_body_14.2.2.2.2.2.2.2.1 (Ktu2 fun jr16181 gtrc6182 => ?_)
  intro H locs hr6179 hP hD hS
  try dsimp only at hr6179
  refine Kpdr (ws := [(h0, oX12 nw nk mhasKept nt mtaped nr mrowMany mroundOf mroundFrom mouts nm mfromHour mtoHour ns mfrom mto msort misFault mdeep mcoded mlines nl nc nF np ntr nb mbestCost nso nsi nit nsh nsf nss nrc (nI jr16181) (nI jd) mnumber mwhose msize misParted), (nrc, iA G 30 gtrc6182)]) hP hD (fun hP hD => ?_)
  have w6183 := hr6179
  refine lv_aload_n hx hb gX12_body_14.2.2.2.2.2.2.2.2.1 rfl (lv_at0 hl) ?_
  refine lv_iconst (v := 4) hx hb gX12_body_14.2.2.2.2.2.2.2.2.2 (by decide) ?_
  refine lv_iconst (v := 0) hx hb gX12_body_15.1 (by decide) ?_
  refine lv_iload_n hx hb gX12_body_15.2.1 rfl (lv_at3 hl) ?_
  refine lv_aload_n hx hb gX12_body_15.2.2.1 rfl (lv_at0 hl) ?_
  refine gf_X12_375 hC rfl hK hP 0 rfl rfl gX12_body_15.2.2.2.1 ?_
  refine lv_iadd hx hb gX12_body_15.2.2.2.2.1 ?_
  refine iV (wr := []) hC hK hl hP hD hS hA (m_from40 l G h0 (xx + mwhose) nw nk mhasKept nt mtaped nr mrowMany mroundOf mroundFrom mouts nm mfromHour mtoHour ns mfrom mto msort misFault mdeep mcoded mlines nl nc nF np ntr nb mbestCost nso nsi nit nsh nsf nss nrc jr16181 jd mnumber mwhose msize misParted gtrc6182 (w6183) (hjd)) si_X12_357 [0, 1] [] sm_0_1 fm_0_1 nd_0_1 rfl rfl (by decide) rfl rfl rfl rfl rfl (Nat.le_of_ble_eq_true rfl) rm_7_6_5 ⟨Nat.le_of_ble_eq_true rfl, Nat.le_of_ble_eq_true rfl⟩ gX12_body_15.2.2.2.2.2.1 (fun r6184 => Ktu3 fun jr16186 ip16187 gtrc6188 => ?_)
  intro H locs hr6184 hP hD hS
  try dsimp only at hr6184
  refine Kpdr (ws := [(h0, oX12 nw nk mhasKept nt mtaped nr mrowMany mroundOf mroundFrom mouts nm mfromHour mtoHour ns mfrom mto msort misFault mdeep mcoded mlines nl nc nF np ntr nb mbestCost nso nsi nit nsh nsf nss nrc (nI jr16186) (nI jd) mnumber mwhose msize ip16187), (nrc, iA G 30 gtrc6188)]) hP hD (fun hP hD => ?_)
  obtain ⟨hr6184, w6189⟩ := hr6184
  refine toQ hQ0 ?_
  exact RI (v := r6184) hC hP hD hS [0, 1] (jr16186, ip16187, gtrc6188) rfl rfl (by decide) (⟨trivial, by omega⟩) rfl gX12_body_15.2.2.2.2.2.2.1
def K_m_from50 (l : Launch) (G : GG) (h0 : Nat) (xx : Int32) (nw : Nat) (nk : Nat) (mhasKept : Int32) (nt : Nat) (mtaped : Int32) (nr : Nat) (mrowMany : Int32) (mroundOf : Int32) (mroundFrom : Int32) (mouts : Int32) (nm : Nat) (mfromHour : Int32) (mtoHour : Int32) (ns : Nat) (mfrom : Int32) (mto : Int32) (msort : Int32) (misFault : Int32) (mdeep : Int32) (mcoded : Int32) (mlines : Int32) (nl : Nat) (nc : Nat) (nF : Nat) (np : Nat) (ntr : Nat) (nb : Nat) (mbestCost : Int32) (nso : Nat) (nsi : Nat) (nit : Nat) (nsh : Nat) (nsf : Nat) (nss : Nat) (nrc : Nat) (jr : Nat) (jd : Nat) (mnumber : Int32) (mwhose : Int32) (msize : Int32) (misParted : Int32) (fnrc : Nat → Int32) : Prop := MI l G yX12_bodyFrom cX12_bodyFrom 5 (some .int) 8 0 0 [.ref h0, .int 5, .int 0, .int xx] [(h0, oX12 nw nk mhasKept nt mtaped nr mrowMany mroundOf mroundFrom mouts nm mfromHour mtoHour ns mfrom mto msort misFault mdeep mcoded mlines nl nc nF np ntr nb mbestCost nso nsi nit nsh nsf nss nrc (nI jr) (nI jd) mnumber mwhose msize misParted), (nrc, iA G 30 fnrc)] (fun (r : Int32) (u : Nat × Int32 × (Nat → Int32)) => (True) ∧ (u.1 ≤ 30)) (fun u : Nat × Int32 × (Nat → Int32) => [(h0, oX12 nw nk mhasKept nt mtaped nr mrowMany mroundOf mroundFrom mouts nm mfromHour mtoHour ns mfrom mto msort misFault mdeep mcoded mlines nl nc nF np ntr nb mbestCost nso nsi nit nsh nsf nss nrc (nI u.1) (nI jd) mnumber mwhose msize u.2.1), (nrc, iA G 30 u.2.2)])
set_option maxHeartbeats 4000000 in
set_option maxRecDepth 100000 in
theorem m_from50 (l : Launch) (G : GG) (h0 : Nat) (xx : Int32) (nw : Nat) (nk : Nat) (mhasKept : Int32) (nt : Nat) (mtaped : Int32) (nr : Nat) (mrowMany : Int32) (mroundOf : Int32) (mroundFrom : Int32) (mouts : Int32) (nm : Nat) (mfromHour : Int32) (mtoHour : Int32) (ns : Nat) (mfrom : Int32) (mto : Int32) (msort : Int32) (misFault : Int32) (mdeep : Int32) (mcoded : Int32) (mlines : Int32) (nl : Nat) (nc : Nat) (nF : Nat) (np : Nat) (ntr : Nat) (nb : Nat) (mbestCost : Int32) (nso : Nat) (nsi : Nat) (nit : Nat) (nsh : Nat) (nsf : Nat) (nss : Nat) (nrc : Nat) (jr : Nat) (jd : Nat) (mnumber : Int32) (mwhose : Int32) (msize : Int32) (misParted : Int32) (fnrc : Nat → Int32) (hjr : jr ≤ 30) (hjd : jd < 7) : K_m_from50 l G h0 xx nw nk mhasKept nt mtaped nr mrowMany mroundOf mroundFrom mouts nm mfromHour mtoHour ns mfrom mto msort misFault mdeep mcoded mlines nl nc nF np ntr nb mbestCost nso nsi nit nsh nsf nss nrc jr jd mnumber mwhose msize misParted fnrc := by
  refine MI.start (by decide +kernel) (Nat.le_of_ble_eq_true rfl) ?_
  intro p e s m below meth c A ls hC hK hP hD hS hA hl
  refine absQ (fun Q0 hQ0 => ?_)
  have hl : lv_has ls 5 [(0, .ref h0), (1, .int 5), (2, .int 0), (3, .int xx)] := hl
  refine Kan8 hC (fun hx hb hr hml hB hown hlocks hnm => ?_)
  refine lv_iload_n hx hb gX12_bodyFrom_0.1 rfl (lv_at1 hl) ?_
  refine lv_istore (lv' := [(4, .int 5), (0, .ref h0), (1, .int 5), (2, .int 0), (3, .int xx)]) hx hb gX12_bodyFrom_0.2.1 hl (by decide) rfl (fun ls hl => ?_)
  refine lv_iload hx hb gX12_bodyFrom_0.2.2.1 (lv_at0 hl) ?_
  refine lv_iload_n hx hb gX12_bodyFrom_0.2.2.2.1 rfl (lv_at3 hl) ?_
  refine pS hC hK hl (m_hasOwn50 l G) si_X12_360 rfl rfl (Nat.le_of_ble_eq_true rfl) rm_8_1_2 ⟨by first | exact Nat.le_of_ble_eq_true rfl | exact Nat.zero_le _, by first | exact Nat.le_of_ble_eq_true rfl | exact Nat.zero_le _⟩ gX12_bodyFrom_0.2.2.2.2.1 (Keqr ?_)
  refine lv_if_ne (tgt := 22) hx hb gX12_bodyFrom_0.2.2.2.2.2.1 (by decide) (fun _ => ?_) (fun c9 => absurd c9 (by decide))
  refine lv_aload_n hx hb gX12_bodyFrom_1.1 rfl (lv_at1 hl) ?_
  refine lv_iload hx hb gX12_bodyFrom_1.2.1 (lv_at0 hl) ?_
  refine lv_iload_n hx hb gX12_bodyFrom_1.2.2.1 rfl (lv_at3 hl) ?_
  refine lv_iload_n hx hb gX12_bodyFrom_1.2.2.2.1 rfl (lv_at4 hl) ?_
  refine iV (wr := []) hC hK hl hP hD hS hA (m_body50 l G h0 xx nw nk mhasKept nt mtaped nr mrowMany mroundOf mroundFrom mouts nm mfromHour mtoHour ns mfrom mto msort misFault mdeep mcoded mlines nl nc nF np ntr nb mbestCost nso nsi nit nsh nsf nss nrc jr jd mnumber mwhose msize misParted fnrc (hjr) (hjd)) si_X12_363 [0, 1] [] sm_0_1 fm_0_1 nd_0_1 rfl rfl (by decide) rfl rfl rfl rfl rfl (Nat.le_of_ble_eq_true rfl) rm_8_7_6 ⟨Nat.le_of_ble_eq_true rfl, Nat.le_of_ble_eq_true rfl⟩ gX12_bodyFrom_1.2.2.2.2.1 (fun r6192 => Ktu3 fun jr16194 ip16195 gtrc6196 => ?_)
  intro H locs hr6192 hP hD hS
  try dsimp only at hr6192
  refine Kpdr (ws := [(h0, oX12 nw nk mhasKept nt mtaped nr mrowMany mroundOf mroundFrom mouts nm mfromHour mtoHour ns mfrom mto msort misFault mdeep mcoded mlines nl nc nF np ntr nb mbestCost nso nsi nit nsh nsf nss nrc (nI jr16194) (nI jd) mnumber mwhose msize ip16195), (nrc, iA G 30 gtrc6196)]) hP hD (fun hP hD => ?_)
  obtain ⟨hr6192, w6197⟩ := hr6192
  refine toQ hQ0 ?_
  exact RI (v := r6192) hC hP hD hS [0, 1] (jr16194, ip16195, gtrc6196) rfl rfl (by decide) (⟨trivial, by omega⟩) rfl gX12_bodyFrom_1.2.2.2.2.2
def K_m_from10 (l : Launch) (G : GG) (h0 : Nat) (xx : Int32) (nw : Nat) (nk : Nat) (mhasKept : Int32) (nt : Nat) (mtaped : Int32) (nr : Nat) (mrowMany : Int32) (mroundOf : Int32) (mroundFrom : Int32) (mouts : Int32) (nm : Nat) (mfromHour : Int32) (mtoHour : Int32) (ns : Nat) (mfrom : Int32) (mto : Int32) (msort : Int32) (misFault : Int32) (mdeep : Int32) (mcoded : Int32) (mlines : Int32) (nl : Nat) (nc : Nat) (nF : Nat) (np : Nat) (ntr : Nat) (nb : Nat) (mbestCost : Int32) (nso : Nat) (nsi : Nat) (nit : Nat) (nsh : Nat) (nsf : Nat) (nss : Nat) (nrc : Nat) (jr : Nat) (jd : Nat) (mnumber : Int32) (mwhose : Int32) (msize : Int32) (misParted : Int32) (fnrc : Nat → Int32) : Prop := MI l G yX12_bodyFrom cX12_bodyFrom 5 (some .int) 12 0 0 [.ref h0, .int 1, .int 0, .int xx] [(h0, oX12 nw nk mhasKept nt mtaped nr mrowMany mroundOf mroundFrom mouts nm mfromHour mtoHour ns mfrom mto msort misFault mdeep mcoded mlines nl nc nF np ntr nb mbestCost nso nsi nit nsh nsf nss nrc (nI jr) (nI jd) mnumber mwhose msize misParted), (nrc, iA G 30 fnrc)] (fun (r : Int32) (u : Nat × Int32 × (Nat → Int32)) => (True) ∧ (u.1 ≤ 30)) (fun u : Nat × Int32 × (Nat → Int32) => [(h0, oX12 nw nk mhasKept nt mtaped nr mrowMany mroundOf mroundFrom mouts nm mfromHour mtoHour ns mfrom mto msort misFault mdeep mcoded mlines nl nc nF np ntr nb mbestCost nso nsi nit nsh nsf nss nrc (nI u.1) (nI jd) mnumber mwhose msize u.2.1), (nrc, iA G 30 u.2.2)])
set_option maxHeartbeats 4000000 in
set_option maxRecDepth 100000 in
theorem m_from10 (l : Launch) (G : GG) (h0 : Nat) (xx : Int32) (nw : Nat) (nk : Nat) (mhasKept : Int32) (nt : Nat) (mtaped : Int32) (nr : Nat) (mrowMany : Int32) (mroundOf : Int32) (mroundFrom : Int32) (mouts : Int32) (nm : Nat) (mfromHour : Int32) (mtoHour : Int32) (ns : Nat) (mfrom : Int32) (mto : Int32) (msort : Int32) (misFault : Int32) (mdeep : Int32) (mcoded : Int32) (mlines : Int32) (nl : Nat) (nc : Nat) (nF : Nat) (np : Nat) (ntr : Nat) (nb : Nat) (mbestCost : Int32) (nso : Nat) (nsi : Nat) (nit : Nat) (nsh : Nat) (nsf : Nat) (nss : Nat) (nrc : Nat) (jr : Nat) (jd : Nat) (mnumber : Int32) (mwhose : Int32) (msize : Int32) (misParted : Int32) (fnrc : Nat → Int32) (hjr : jr ≤ 30) (hjd : jd < 7) : K_m_from10 l G h0 xx nw nk mhasKept nt mtaped nr mrowMany mroundOf mroundFrom mouts nm mfromHour mtoHour ns mfrom mto msort misFault mdeep mcoded mlines nl nc nF np ntr nb mbestCost nso nsi nit nsh nsf nss nrc jr jd mnumber mwhose msize misParted fnrc := by
  refine MI.start (by decide +kernel) (Nat.le_of_ble_eq_true rfl) ?_
  intro p e s m below meth c A ls hC hK hP hD hS hA hl
  refine absQ (fun Q0 hQ0 => ?_)
  have hl : lv_has ls 5 [(0, .ref h0), (1, .int 1), (2, .int 0), (3, .int xx)] := hl
  refine Kan8 hC (fun hx hb hr hml hB hown hlocks hnm => ?_)
  refine lv_iload_n hx hb gX12_bodyFrom_0.1 rfl (lv_at1 hl) ?_
  refine lv_istore (lv' := [(4, .int 1), (0, .ref h0), (1, .int 1), (2, .int 0), (3, .int xx)]) hx hb gX12_bodyFrom_0.2.1 hl (by decide) rfl (fun ls hl => ?_)
  refine lv_iload hx hb gX12_bodyFrom_0.2.2.1 (lv_at0 hl) ?_
  refine lv_iload_n hx hb gX12_bodyFrom_0.2.2.2.1 rfl (lv_at3 hl) ?_
  refine pS hC hK hl (m_hasOwn10 l G) si_X12_360 rfl rfl (Nat.le_of_ble_eq_true rfl) rm_12_1_2 ⟨by first | exact Nat.le_of_ble_eq_true rfl | exact Nat.zero_le _, by first | exact Nat.le_of_ble_eq_true rfl | exact Nat.zero_le _⟩ gX12_bodyFrom_0.2.2.2.2.1 (Keqr ?_)
  refine lv_if_ne (tgt := 22) hx hb gX12_bodyFrom_0.2.2.2.2.2.1 (by decide) (fun c9 => absurd (by decide) c9) (fun _ => ?_)
  refine lv_iload hx hb gX12_bodyFrom_0.2.2.2.2.2.2.1 (lv_at0 hl) ?_
  refine pS hC hK hl (m_above1 l G) si_X12_348 rfl rfl (Nat.le_of_ble_eq_true rfl) rm_12_1_1 ⟨by first | exact Nat.le_of_ble_eq_true rfl | exact Nat.zero_le _, by first | exact Nat.le_of_ble_eq_true rfl | exact Nat.zero_le _⟩ gX12_bodyFrom_0.2.2.2.2.2.2.2.1 (Keqr ?_)
  refine lv_istore (lv' := [(4, .int 0), (0, .ref h0), (1, .int 1), (2, .int 0), (3, .int xx)]) hx hb gX12_bodyFrom_0.2.2.2.2.2.2.2.2.1 hl (by decide) rfl (fun ls hl => ?_)
  refine lv_goto (tgt := 3) hx hb gX12_bodyFrom_0.2.2.2.2.2.2.2.2.2 (by decide) ?_
  refine lv_iload hx hb gX12_bodyFrom_0.2.2.1 (lv_at0 hl) ?_
  refine lv_iload_n hx hb gX12_bodyFrom_0.2.2.2.1 rfl (lv_at3 hl) ?_
  refine pS hC hK hl (m_hasOwn00 l G) si_X12_360 rfl rfl (Nat.le_of_ble_eq_true rfl) rm_12_1_2 ⟨by first | exact Nat.le_of_ble_eq_true rfl | exact Nat.zero_le _, by first | exact Nat.le_of_ble_eq_true rfl | exact Nat.zero_le _⟩ gX12_bodyFrom_0.2.2.2.2.1 (Keqr ?_)
  refine lv_if_ne (tgt := 22) hx hb gX12_bodyFrom_0.2.2.2.2.2.1 (by decide) (fun _ => ?_) (fun c9 => absurd c9 (by decide))
  refine lv_aload_n hx hb gX12_bodyFrom_1.1 rfl (lv_at1 hl) ?_
  refine lv_iload hx hb gX12_bodyFrom_1.2.1 (lv_at0 hl) ?_
  refine lv_iload_n hx hb gX12_bodyFrom_1.2.2.1 rfl (lv_at3 hl) ?_
  refine lv_iload_n hx hb gX12_bodyFrom_1.2.2.2.1 rfl (lv_at4 hl) ?_
  refine iV (wr := []) hC hK hl hP hD hS hA (m_body00 l G h0 xx nw nk mhasKept nt mtaped nr mrowMany mroundOf mroundFrom mouts nm mfromHour mtoHour ns mfrom mto msort misFault mdeep mcoded mlines nl nc nF np ntr nb mbestCost nso nsi nit nsh nsf nss nrc jr jd mnumber mwhose msize misParted fnrc (hjr) (hjd)) si_X12_363 [0, 1] [] sm_0_1 fm_0_1 nd_0_1 rfl rfl (by decide) rfl rfl rfl rfl rfl (Nat.le_of_ble_eq_true rfl) rm_12_3_6 ⟨Nat.le_of_ble_eq_true rfl, Nat.le_of_ble_eq_true rfl⟩ gX12_bodyFrom_1.2.2.2.2.1 (fun r6204 => Ktu3 fun jr16206 ip16207 gtrc6208 => ?_)
  intro H locs hr6204 hP hD hS
  try dsimp only at hr6204
  refine Kpdr (ws := [(h0, oX12 nw nk mhasKept nt mtaped nr mrowMany mroundOf mroundFrom mouts nm mfromHour mtoHour ns mfrom mto msort misFault mdeep mcoded mlines nl nc nF np ntr nb mbestCost nso nsi nit nsh nsf nss nrc (nI jr16206) (nI jd) mnumber mwhose msize ip16207), (nrc, iA G 30 gtrc6208)]) hP hD (fun hP hD => ?_)
  obtain ⟨hr6204, w6209⟩ := hr6204
  refine toQ hQ0 ?_
  exact RI (v := r6204) hC hP hD hS [0, 1] (jr16206, ip16207, gtrc6208) rfl rfl (by decide) (⟨trivial, by omega⟩) rfl gX12_bodyFrom_1.2.2.2.2.2
def K_m_from20 (l : Launch) (G : GG) (h0 : Nat) (xx : Int32) (nw : Nat) (nk : Nat) (mhasKept : Int32) (nt : Nat) (mtaped : Int32) (nr : Nat) (mrowMany : Int32) (mroundOf : Int32) (mroundFrom : Int32) (mouts : Int32) (nm : Nat) (mfromHour : Int32) (mtoHour : Int32) (ns : Nat) (mfrom : Int32) (mto : Int32) (msort : Int32) (misFault : Int32) (mdeep : Int32) (mcoded : Int32) (mlines : Int32) (nl : Nat) (nc : Nat) (nF : Nat) (np : Nat) (ntr : Nat) (nb : Nat) (mbestCost : Int32) (nso : Nat) (nsi : Nat) (nit : Nat) (nsh : Nat) (nsf : Nat) (nss : Nat) (nrc : Nat) (jr : Nat) (jd : Nat) (mnumber : Int32) (mwhose : Int32) (msize : Int32) (misParted : Int32) (fnrc : Nat → Int32) : Prop := MI l G yX12_bodyFrom cX12_bodyFrom 5 (some .int) 12 0 0 [.ref h0, .int 2, .int 0, .int xx] [(h0, oX12 nw nk mhasKept nt mtaped nr mrowMany mroundOf mroundFrom mouts nm mfromHour mtoHour ns mfrom mto msort misFault mdeep mcoded mlines nl nc nF np ntr nb mbestCost nso nsi nit nsh nsf nss nrc (nI jr) (nI jd) mnumber mwhose msize misParted), (nrc, iA G 30 fnrc)] (fun (r : Int32) (u : Nat × Int32 × (Nat → Int32)) => (True) ∧ (u.1 ≤ 30)) (fun u : Nat × Int32 × (Nat → Int32) => [(h0, oX12 nw nk mhasKept nt mtaped nr mrowMany mroundOf mroundFrom mouts nm mfromHour mtoHour ns mfrom mto msort misFault mdeep mcoded mlines nl nc nF np ntr nb mbestCost nso nsi nit nsh nsf nss nrc (nI u.1) (nI jd) mnumber mwhose msize u.2.1), (nrc, iA G 30 u.2.2)])
set_option maxHeartbeats 4000000 in
set_option maxRecDepth 100000 in
theorem m_from20 (l : Launch) (G : GG) (h0 : Nat) (xx : Int32) (nw : Nat) (nk : Nat) (mhasKept : Int32) (nt : Nat) (mtaped : Int32) (nr : Nat) (mrowMany : Int32) (mroundOf : Int32) (mroundFrom : Int32) (mouts : Int32) (nm : Nat) (mfromHour : Int32) (mtoHour : Int32) (ns : Nat) (mfrom : Int32) (mto : Int32) (msort : Int32) (misFault : Int32) (mdeep : Int32) (mcoded : Int32) (mlines : Int32) (nl : Nat) (nc : Nat) (nF : Nat) (np : Nat) (ntr : Nat) (nb : Nat) (mbestCost : Int32) (nso : Nat) (nsi : Nat) (nit : Nat) (nsh : Nat) (nsf : Nat) (nss : Nat) (nrc : Nat) (jr : Nat) (jd : Nat) (mnumber : Int32) (mwhose : Int32) (msize : Int32) (misParted : Int32) (fnrc : Nat → Int32) (hjr : jr ≤ 30) (hjd : jd < 7) : K_m_from20 l G h0 xx nw nk mhasKept nt mtaped nr mrowMany mroundOf mroundFrom mouts nm mfromHour mtoHour ns mfrom mto msort misFault mdeep mcoded mlines nl nc nF np ntr nb mbestCost nso nsi nit nsh nsf nss nrc jr jd mnumber mwhose msize misParted fnrc := by
  refine MI.start (by decide +kernel) (Nat.le_of_ble_eq_true rfl) ?_
  intro p e s m below meth c A ls hC hK hP hD hS hA hl
  refine absQ (fun Q0 hQ0 => ?_)
  have hl : lv_has ls 5 [(0, .ref h0), (1, .int 2), (2, .int 0), (3, .int xx)] := hl
  refine Kan8 hC (fun hx hb hr hml hB hown hlocks hnm => ?_)
  refine lv_iload_n hx hb gX12_bodyFrom_0.1 rfl (lv_at1 hl) ?_
  refine lv_istore (lv' := [(4, .int 2), (0, .ref h0), (1, .int 2), (2, .int 0), (3, .int xx)]) hx hb gX12_bodyFrom_0.2.1 hl (by decide) rfl (fun ls hl => ?_)
  refine lv_iload hx hb gX12_bodyFrom_0.2.2.1 (lv_at0 hl) ?_
  refine lv_iload_n hx hb gX12_bodyFrom_0.2.2.2.1 rfl (lv_at3 hl) ?_
  refine pS hC hK hl (m_hasOwn20 l G) si_X12_360 rfl rfl (Nat.le_of_ble_eq_true rfl) rm_12_1_2 ⟨by first | exact Nat.le_of_ble_eq_true rfl | exact Nat.zero_le _, by first | exact Nat.le_of_ble_eq_true rfl | exact Nat.zero_le _⟩ gX12_bodyFrom_0.2.2.2.2.1 (Keqr ?_)
  refine lv_if_ne (tgt := 22) hx hb gX12_bodyFrom_0.2.2.2.2.2.1 (by decide) (fun c9 => absurd (by decide) c9) (fun _ => ?_)
  refine lv_iload hx hb gX12_bodyFrom_0.2.2.2.2.2.2.1 (lv_at0 hl) ?_
  refine pS hC hK hl (m_above2 l G) si_X12_348 rfl rfl (Nat.le_of_ble_eq_true rfl) rm_12_1_1 ⟨by first | exact Nat.le_of_ble_eq_true rfl | exact Nat.zero_le _, by first | exact Nat.le_of_ble_eq_true rfl | exact Nat.zero_le _⟩ gX12_bodyFrom_0.2.2.2.2.2.2.2.1 (Keqr ?_)
  refine lv_istore (lv' := [(4, .int 0), (0, .ref h0), (1, .int 2), (2, .int 0), (3, .int xx)]) hx hb gX12_bodyFrom_0.2.2.2.2.2.2.2.2.1 hl (by decide) rfl (fun ls hl => ?_)
  refine lv_goto (tgt := 3) hx hb gX12_bodyFrom_0.2.2.2.2.2.2.2.2.2 (by decide) ?_
  refine lv_iload hx hb gX12_bodyFrom_0.2.2.1 (lv_at0 hl) ?_
  refine lv_iload_n hx hb gX12_bodyFrom_0.2.2.2.1 rfl (lv_at3 hl) ?_
  refine pS hC hK hl (m_hasOwn00 l G) si_X12_360 rfl rfl (Nat.le_of_ble_eq_true rfl) rm_12_1_2 ⟨by first | exact Nat.le_of_ble_eq_true rfl | exact Nat.zero_le _, by first | exact Nat.le_of_ble_eq_true rfl | exact Nat.zero_le _⟩ gX12_bodyFrom_0.2.2.2.2.1 (Keqr ?_)
  refine lv_if_ne (tgt := 22) hx hb gX12_bodyFrom_0.2.2.2.2.2.1 (by decide) (fun _ => ?_) (fun c9 => absurd c9 (by decide))
  refine lv_aload_n hx hb gX12_bodyFrom_1.1 rfl (lv_at1 hl) ?_
  refine lv_iload hx hb gX12_bodyFrom_1.2.1 (lv_at0 hl) ?_
  refine lv_iload_n hx hb gX12_bodyFrom_1.2.2.1 rfl (lv_at3 hl) ?_
  refine lv_iload_n hx hb gX12_bodyFrom_1.2.2.2.1 rfl (lv_at4 hl) ?_
  refine iV (wr := []) hC hK hl hP hD hS hA (m_body00 l G h0 xx nw nk mhasKept nt mtaped nr mrowMany mroundOf mroundFrom mouts nm mfromHour mtoHour ns mfrom mto msort misFault mdeep mcoded mlines nl nc nF np ntr nb mbestCost nso nsi nit nsh nsf nss nrc jr jd mnumber mwhose msize misParted fnrc (hjr) (hjd)) si_X12_363 [0, 1] [] sm_0_1 fm_0_1 nd_0_1 rfl rfl (by decide) rfl rfl rfl rfl rfl (Nat.le_of_ble_eq_true rfl) rm_12_3_6 ⟨Nat.le_of_ble_eq_true rfl, Nat.le_of_ble_eq_true rfl⟩ gX12_bodyFrom_1.2.2.2.2.1 (fun r6216 => Ktu3 fun jr16218 ip16219 gtrc6220 => ?_)
  intro H locs hr6216 hP hD hS
  try dsimp only at hr6216
  refine Kpdr (ws := [(h0, oX12 nw nk mhasKept nt mtaped nr mrowMany mroundOf mroundFrom mouts nm mfromHour mtoHour ns mfrom mto msort misFault mdeep mcoded mlines nl nc nF np ntr nb mbestCost nso nsi nit nsh nsf nss nrc (nI jr16218) (nI jd) mnumber mwhose msize ip16219), (nrc, iA G 30 gtrc6220)]) hP hD (fun hP hD => ?_)
  obtain ⟨hr6216, w6221⟩ := hr6216
  refine toQ hQ0 ?_
  exact RI (v := r6216) hC hP hD hS [0, 1] (jr16218, ip16219, gtrc6220) rfl rfl (by decide) (⟨trivial, by omega⟩) rfl gX12_bodyFrom_1.2.2.2.2.2
def K_m_from30 (l : Launch) (G : GG) (h0 : Nat) (xx : Int32) (nw : Nat) (nk : Nat) (mhasKept : Int32) (nt : Nat) (mtaped : Int32) (nr : Nat) (mrowMany : Int32) (mroundOf : Int32) (mroundFrom : Int32) (mouts : Int32) (nm : Nat) (mfromHour : Int32) (mtoHour : Int32) (ns : Nat) (mfrom : Int32) (mto : Int32) (msort : Int32) (misFault : Int32) (mdeep : Int32) (mcoded : Int32) (mlines : Int32) (nl : Nat) (nc : Nat) (nF : Nat) (np : Nat) (ntr : Nat) (nb : Nat) (mbestCost : Int32) (nso : Nat) (nsi : Nat) (nit : Nat) (nsh : Nat) (nsf : Nat) (nss : Nat) (nrc : Nat) (jr : Nat) (jd : Nat) (mnumber : Int32) (mwhose : Int32) (msize : Int32) (misParted : Int32) (fnrc : Nat → Int32) : Prop := MI l G yX12_bodyFrom cX12_bodyFrom 5 (some .int) 12 0 0 [.ref h0, .int 3, .int 0, .int xx] [(h0, oX12 nw nk mhasKept nt mtaped nr mrowMany mroundOf mroundFrom mouts nm mfromHour mtoHour ns mfrom mto msort misFault mdeep mcoded mlines nl nc nF np ntr nb mbestCost nso nsi nit nsh nsf nss nrc (nI jr) (nI jd) mnumber mwhose msize misParted), (nrc, iA G 30 fnrc)] (fun (r : Int32) (u : Nat × Int32 × (Nat → Int32)) => (True) ∧ (u.1 ≤ 30)) (fun u : Nat × Int32 × (Nat → Int32) => [(h0, oX12 nw nk mhasKept nt mtaped nr mrowMany mroundOf mroundFrom mouts nm mfromHour mtoHour ns mfrom mto msort misFault mdeep mcoded mlines nl nc nF np ntr nb mbestCost nso nsi nit nsh nsf nss nrc (nI u.1) (nI jd) mnumber mwhose msize u.2.1), (nrc, iA G 30 u.2.2)])
set_option maxHeartbeats 4000000 in
set_option maxRecDepth 100000 in
theorem m_from30 (l : Launch) (G : GG) (h0 : Nat) (xx : Int32) (nw : Nat) (nk : Nat) (mhasKept : Int32) (nt : Nat) (mtaped : Int32) (nr : Nat) (mrowMany : Int32) (mroundOf : Int32) (mroundFrom : Int32) (mouts : Int32) (nm : Nat) (mfromHour : Int32) (mtoHour : Int32) (ns : Nat) (mfrom : Int32) (mto : Int32) (msort : Int32) (misFault : Int32) (mdeep : Int32) (mcoded : Int32) (mlines : Int32) (nl : Nat) (nc : Nat) (nF : Nat) (np : Nat) (ntr : Nat) (nb : Nat) (mbestCost : Int32) (nso : Nat) (nsi : Nat) (nit : Nat) (nsh : Nat) (nsf : Nat) (nss : Nat) (nrc : Nat) (jr : Nat) (jd : Nat) (mnumber : Int32) (mwhose : Int32) (msize : Int32) (misParted : Int32) (fnrc : Nat → Int32) (hjr : jr ≤ 30) (hjd : jd < 7) : K_m_from30 l G h0 xx nw nk mhasKept nt mtaped nr mrowMany mroundOf mroundFrom mouts nm mfromHour mtoHour ns mfrom mto msort misFault mdeep mcoded mlines nl nc nF np ntr nb mbestCost nso nsi nit nsh nsf nss nrc jr jd mnumber mwhose msize misParted fnrc := by
  refine MI.start (by decide +kernel) (Nat.le_of_ble_eq_true rfl) ?_
  intro p e s m below meth c A ls hC hK hP hD hS hA hl
  refine absQ (fun Q0 hQ0 => ?_)
  have hl : lv_has ls 5 [(0, .ref h0), (1, .int 3), (2, .int 0), (3, .int xx)] := hl
  refine Kan8 hC (fun hx hb hr hml hB hown hlocks hnm => ?_)
  refine lv_iload_n hx hb gX12_bodyFrom_0.1 rfl (lv_at1 hl) ?_
  refine lv_istore (lv' := [(4, .int 3), (0, .ref h0), (1, .int 3), (2, .int 0), (3, .int xx)]) hx hb gX12_bodyFrom_0.2.1 hl (by decide) rfl (fun ls hl => ?_)
  refine lv_iload hx hb gX12_bodyFrom_0.2.2.1 (lv_at0 hl) ?_
  refine lv_iload_n hx hb gX12_bodyFrom_0.2.2.2.1 rfl (lv_at3 hl) ?_
  refine pS hC hK hl (m_hasOwn30 l G) si_X12_360 rfl rfl (Nat.le_of_ble_eq_true rfl) rm_12_1_2 ⟨by first | exact Nat.le_of_ble_eq_true rfl | exact Nat.zero_le _, by first | exact Nat.le_of_ble_eq_true rfl | exact Nat.zero_le _⟩ gX12_bodyFrom_0.2.2.2.2.1 (Keqr ?_)
  refine lv_if_ne (tgt := 22) hx hb gX12_bodyFrom_0.2.2.2.2.2.1 (by decide) (fun c9 => absurd (by decide) c9) (fun _ => ?_)
  refine lv_iload hx hb gX12_bodyFrom_0.2.2.2.2.2.2.1 (lv_at0 hl) ?_
  refine pS hC hK hl (m_above3 l G) si_X12_348 rfl rfl (Nat.le_of_ble_eq_true rfl) rm_12_1_1 ⟨by first | exact Nat.le_of_ble_eq_true rfl | exact Nat.zero_le _, by first | exact Nat.le_of_ble_eq_true rfl | exact Nat.zero_le _⟩ gX12_bodyFrom_0.2.2.2.2.2.2.2.1 (Keqr ?_)
  refine lv_istore (lv' := [(4, .int 1), (0, .ref h0), (1, .int 3), (2, .int 0), (3, .int xx)]) hx hb gX12_bodyFrom_0.2.2.2.2.2.2.2.2.1 hl (by decide) rfl (fun ls hl => ?_)
  refine lv_goto (tgt := 3) hx hb gX12_bodyFrom_0.2.2.2.2.2.2.2.2.2 (by decide) ?_
  refine lv_iload hx hb gX12_bodyFrom_0.2.2.1 (lv_at0 hl) ?_
  refine lv_iload_n hx hb gX12_bodyFrom_0.2.2.2.1 rfl (lv_at3 hl) ?_
  refine pS hC hK hl (m_hasOwn10 l G) si_X12_360 rfl rfl (Nat.le_of_ble_eq_true rfl) rm_12_1_2 ⟨by first | exact Nat.le_of_ble_eq_true rfl | exact Nat.zero_le _, by first | exact Nat.le_of_ble_eq_true rfl | exact Nat.zero_le _⟩ gX12_bodyFrom_0.2.2.2.2.1 (Keqr ?_)
  refine lv_if_ne (tgt := 22) hx hb gX12_bodyFrom_0.2.2.2.2.2.1 (by decide) (fun c9 => absurd (by decide) c9) (fun _ => ?_)
  refine lv_iload hx hb gX12_bodyFrom_0.2.2.2.2.2.2.1 (lv_at0 hl) ?_
  refine pS hC hK hl (m_above1 l G) si_X12_348 rfl rfl (Nat.le_of_ble_eq_true rfl) rm_12_1_1 ⟨by first | exact Nat.le_of_ble_eq_true rfl | exact Nat.zero_le _, by first | exact Nat.le_of_ble_eq_true rfl | exact Nat.zero_le _⟩ gX12_bodyFrom_0.2.2.2.2.2.2.2.1 (Keqr ?_)
  refine lv_istore (lv' := [(4, .int 0), (0, .ref h0), (1, .int 3), (2, .int 0), (3, .int xx)]) hx hb gX12_bodyFrom_0.2.2.2.2.2.2.2.2.1 hl (by decide) rfl (fun ls hl => ?_)
  refine lv_goto (tgt := 3) hx hb gX12_bodyFrom_0.2.2.2.2.2.2.2.2.2 (by decide) ?_
  refine lv_iload hx hb gX12_bodyFrom_0.2.2.1 (lv_at0 hl) ?_
  refine lv_iload_n hx hb gX12_bodyFrom_0.2.2.2.1 rfl (lv_at3 hl) ?_
  refine pS hC hK hl (m_hasOwn00 l G) si_X12_360 rfl rfl (Nat.le_of_ble_eq_true rfl) rm_12_1_2 ⟨by first | exact Nat.le_of_ble_eq_true rfl | exact Nat.zero_le _, by first | exact Nat.le_of_ble_eq_true rfl | exact Nat.zero_le _⟩ gX12_bodyFrom_0.2.2.2.2.1 (Keqr ?_)
  refine lv_if_ne (tgt := 22) hx hb gX12_bodyFrom_0.2.2.2.2.2.1 (by decide) (fun _ => ?_) (fun c9 => absurd c9 (by decide))
  refine lv_aload_n hx hb gX12_bodyFrom_1.1 rfl (lv_at1 hl) ?_
  refine lv_iload hx hb gX12_bodyFrom_1.2.1 (lv_at0 hl) ?_
  refine lv_iload_n hx hb gX12_bodyFrom_1.2.2.1 rfl (lv_at3 hl) ?_
  refine lv_iload_n hx hb gX12_bodyFrom_1.2.2.2.1 rfl (lv_at4 hl) ?_
  refine iV (wr := []) hC hK hl hP hD hS hA (m_body00 l G h0 xx nw nk mhasKept nt mtaped nr mrowMany mroundOf mroundFrom mouts nm mfromHour mtoHour ns mfrom mto msort misFault mdeep mcoded mlines nl nc nF np ntr nb mbestCost nso nsi nit nsh nsf nss nrc jr jd mnumber mwhose msize misParted fnrc (hjr) (hjd)) si_X12_363 [0, 1] [] sm_0_1 fm_0_1 nd_0_1 rfl rfl (by decide) rfl rfl rfl rfl rfl (Nat.le_of_ble_eq_true rfl) rm_12_3_6 ⟨Nat.le_of_ble_eq_true rfl, Nat.le_of_ble_eq_true rfl⟩ gX12_bodyFrom_1.2.2.2.2.1 (fun r6232 => Ktu3 fun jr16234 ip16235 gtrc6236 => ?_)
  intro H locs hr6232 hP hD hS
  try dsimp only at hr6232
  refine Kpdr (ws := [(h0, oX12 nw nk mhasKept nt mtaped nr mrowMany mroundOf mroundFrom mouts nm mfromHour mtoHour ns mfrom mto msort misFault mdeep mcoded mlines nl nc nF np ntr nb mbestCost nso nsi nit nsh nsf nss nrc (nI jr16234) (nI jd) mnumber mwhose msize ip16235), (nrc, iA G 30 gtrc6236)]) hP hD (fun hP hD => ?_)
  obtain ⟨hr6232, w6237⟩ := hr6232
  refine toQ hQ0 ?_
  exact RI (v := r6232) hC hP hD hS [0, 1] (jr16234, ip16235, gtrc6236) rfl rfl (by decide) (⟨trivial, by omega⟩) rfl gX12_bodyFrom_1.2.2.2.2.2
def K_m_from60 (l : Launch) (G : GG) (h0 : Nat) (xx : Int32) (nw : Nat) (nk : Nat) (mhasKept : Int32) (nt : Nat) (mtaped : Int32) (nr : Nat) (mrowMany : Int32) (mroundOf : Int32) (mroundFrom : Int32) (mouts : Int32) (nm : Nat) (mfromHour : Int32) (mtoHour : Int32) (ns : Nat) (mfrom : Int32) (mto : Int32) (msort : Int32) (misFault : Int32) (mdeep : Int32) (mcoded : Int32) (mlines : Int32) (nl : Nat) (nc : Nat) (nF : Nat) (np : Nat) (ntr : Nat) (nb : Nat) (mbestCost : Int32) (nso : Nat) (nsi : Nat) (nit : Nat) (nsh : Nat) (nsf : Nat) (nss : Nat) (nrc : Nat) (jr : Nat) (jd : Nat) (mnumber : Int32) (mwhose : Int32) (msize : Int32) (misParted : Int32) (fnrc : Nat → Int32) : Prop := MI l G yX12_bodyFrom cX12_bodyFrom 5 (some .int) 12 0 0 [.ref h0, .int 6, .int 0, .int xx] [(h0, oX12 nw nk mhasKept nt mtaped nr mrowMany mroundOf mroundFrom mouts nm mfromHour mtoHour ns mfrom mto msort misFault mdeep mcoded mlines nl nc nF np ntr nb mbestCost nso nsi nit nsh nsf nss nrc (nI jr) (nI jd) mnumber mwhose msize misParted), (nrc, iA G 30 fnrc)] (fun (r : Int32) (u : Nat × Int32 × (Nat → Int32)) => (True) ∧ (u.1 ≤ 30)) (fun u : Nat × Int32 × (Nat → Int32) => [(h0, oX12 nw nk mhasKept nt mtaped nr mrowMany mroundOf mroundFrom mouts nm mfromHour mtoHour ns mfrom mto msort misFault mdeep mcoded mlines nl nc nF np ntr nb mbestCost nso nsi nit nsh nsf nss nrc (nI u.1) (nI jd) mnumber mwhose msize u.2.1), (nrc, iA G 30 u.2.2)])
set_option maxHeartbeats 4000000 in
set_option maxRecDepth 100000 in
theorem m_from60 (l : Launch) (G : GG) (h0 : Nat) (xx : Int32) (nw : Nat) (nk : Nat) (mhasKept : Int32) (nt : Nat) (mtaped : Int32) (nr : Nat) (mrowMany : Int32) (mroundOf : Int32) (mroundFrom : Int32) (mouts : Int32) (nm : Nat) (mfromHour : Int32) (mtoHour : Int32) (ns : Nat) (mfrom : Int32) (mto : Int32) (msort : Int32) (misFault : Int32) (mdeep : Int32) (mcoded : Int32) (mlines : Int32) (nl : Nat) (nc : Nat) (nF : Nat) (np : Nat) (ntr : Nat) (nb : Nat) (mbestCost : Int32) (nso : Nat) (nsi : Nat) (nit : Nat) (nsh : Nat) (nsf : Nat) (nss : Nat) (nrc : Nat) (jr : Nat) (jd : Nat) (mnumber : Int32) (mwhose : Int32) (msize : Int32) (misParted : Int32) (fnrc : Nat → Int32) (hjr : jr ≤ 30) (hjd : jd < 7) : K_m_from60 l G h0 xx nw nk mhasKept nt mtaped nr mrowMany mroundOf mroundFrom mouts nm mfromHour mtoHour ns mfrom mto msort misFault mdeep mcoded mlines nl nc nF np ntr nb mbestCost nso nsi nit nsh nsf nss nrc jr jd mnumber mwhose msize misParted fnrc := by
  refine MI.start (by decide +kernel) (Nat.le_of_ble_eq_true rfl) ?_
  intro p e s m below meth c A ls hC hK hP hD hS hA hl
  refine absQ (fun Q0 hQ0 => ?_)
  have hl : lv_has ls 5 [(0, .ref h0), (1, .int 6), (2, .int 0), (3, .int xx)] := hl
  refine Kan8 hC (fun hx hb hr hml hB hown hlocks hnm => ?_)
  refine lv_iload_n hx hb gX12_bodyFrom_0.1 rfl (lv_at1 hl) ?_
  refine lv_istore (lv' := [(4, .int 6), (0, .ref h0), (1, .int 6), (2, .int 0), (3, .int xx)]) hx hb gX12_bodyFrom_0.2.1 hl (by decide) rfl (fun ls hl => ?_)
  refine lv_iload hx hb gX12_bodyFrom_0.2.2.1 (lv_at0 hl) ?_
  refine lv_iload_n hx hb gX12_bodyFrom_0.2.2.2.1 rfl (lv_at3 hl) ?_
  refine pS hC hK hl (m_hasOwn60 l G) si_X12_360 rfl rfl (Nat.le_of_ble_eq_true rfl) rm_12_1_2 ⟨by first | exact Nat.le_of_ble_eq_true rfl | exact Nat.zero_le _, by first | exact Nat.le_of_ble_eq_true rfl | exact Nat.zero_le _⟩ gX12_bodyFrom_0.2.2.2.2.1 (Keqr ?_)
  refine lv_if_ne (tgt := 22) hx hb gX12_bodyFrom_0.2.2.2.2.2.1 (by decide) (fun c9 => absurd (by decide) c9) (fun _ => ?_)
  refine lv_iload hx hb gX12_bodyFrom_0.2.2.2.2.2.2.1 (lv_at0 hl) ?_
  refine pS hC hK hl (m_above6 l G) si_X12_348 rfl rfl (Nat.le_of_ble_eq_true rfl) rm_12_1_1 ⟨by first | exact Nat.le_of_ble_eq_true rfl | exact Nat.zero_le _, by first | exact Nat.le_of_ble_eq_true rfl | exact Nat.zero_le _⟩ gX12_bodyFrom_0.2.2.2.2.2.2.2.1 (Keqr ?_)
  refine lv_istore (lv' := [(4, .int 0), (0, .ref h0), (1, .int 6), (2, .int 0), (3, .int xx)]) hx hb gX12_bodyFrom_0.2.2.2.2.2.2.2.2.1 hl (by decide) rfl (fun ls hl => ?_)
  refine lv_goto (tgt := 3) hx hb gX12_bodyFrom_0.2.2.2.2.2.2.2.2.2 (by decide) ?_
  refine lv_iload hx hb gX12_bodyFrom_0.2.2.1 (lv_at0 hl) ?_
  refine lv_iload_n hx hb gX12_bodyFrom_0.2.2.2.1 rfl (lv_at3 hl) ?_
  refine pS hC hK hl (m_hasOwn00 l G) si_X12_360 rfl rfl (Nat.le_of_ble_eq_true rfl) rm_12_1_2 ⟨by first | exact Nat.le_of_ble_eq_true rfl | exact Nat.zero_le _, by first | exact Nat.le_of_ble_eq_true rfl | exact Nat.zero_le _⟩ gX12_bodyFrom_0.2.2.2.2.1 (Keqr ?_)
  refine lv_if_ne (tgt := 22) hx hb gX12_bodyFrom_0.2.2.2.2.2.1 (by decide) (fun _ => ?_) (fun c9 => absurd c9 (by decide))
  refine lv_aload_n hx hb gX12_bodyFrom_1.1 rfl (lv_at1 hl) ?_
  refine lv_iload hx hb gX12_bodyFrom_1.2.1 (lv_at0 hl) ?_
  refine lv_iload_n hx hb gX12_bodyFrom_1.2.2.1 rfl (lv_at3 hl) ?_
  refine lv_iload_n hx hb gX12_bodyFrom_1.2.2.2.1 rfl (lv_at4 hl) ?_
  refine iV (wr := []) hC hK hl hP hD hS hA (m_body00 l G h0 xx nw nk mhasKept nt mtaped nr mrowMany mroundOf mroundFrom mouts nm mfromHour mtoHour ns mfrom mto msort misFault mdeep mcoded mlines nl nc nF np ntr nb mbestCost nso nsi nit nsh nsf nss nrc jr jd mnumber mwhose msize misParted fnrc (hjr) (hjd)) si_X12_363 [0, 1] [] sm_0_1 fm_0_1 nd_0_1 rfl rfl (by decide) rfl rfl rfl rfl rfl (Nat.le_of_ble_eq_true rfl) rm_12_3_6 ⟨Nat.le_of_ble_eq_true rfl, Nat.le_of_ble_eq_true rfl⟩ gX12_bodyFrom_1.2.2.2.2.1 (fun r6244 => Ktu3 fun jr16246 ip16247 gtrc6248 => ?_)
  intro H locs hr6244 hP hD hS
  try dsimp only at hr6244
  refine Kpdr (ws := [(h0, oX12 nw nk mhasKept nt mtaped nr mrowMany mroundOf mroundFrom mouts nm mfromHour mtoHour ns mfrom mto msort misFault mdeep mcoded mlines nl nc nF np ntr nb mbestCost nso nsi nit nsh nsf nss nrc (nI jr16246) (nI jd) mnumber mwhose msize ip16247), (nrc, iA G 30 gtrc6248)]) hP hD (fun hP hD => ?_)
  obtain ⟨hr6244, w6249⟩ := hr6244
  refine toQ hQ0 ?_
  exact RI (v := r6244) hC hP hD hS [0, 1] (jr16246, ip16247, gtrc6248) rfl rfl (by decide) (⟨trivial, by omega⟩) rfl gX12_bodyFrom_1.2.2.2.2.2
def K_m_dealt0 (l : Launch) (G : GG) (h0 : Nat) (xx : Int32) (nw : Nat) (nk : Nat) (mhasKept : Int32) (nt : Nat) (mtaped : Int32) (nr : Nat) (mrowMany : Int32) (mroundOf : Int32) (mroundFrom : Int32) (mouts : Int32) (nm : Nat) (mfromHour : Int32) (mtoHour : Int32) (ns : Nat) (mfrom : Int32) (mto : Int32) (msort : Int32) (misFault : Int32) (mdeep : Int32) (mcoded : Int32) (mlines : Int32) (nl : Nat) (nc : Nat) (nF : Nat) (np : Nat) (ntr : Nat) (nb : Nat) (mbestCost : Int32) (nso : Nat) (nsi : Nat) (nit : Nat) (nsh : Nat) (nsf : Nat) (nss : Nat) (nrc : Nat) (jr : Nat) (jd : Nat) (mnumber : Int32) (mwhose : Int32) (msize : Int32) (misParted : Int32) (fnrc : Nat → Int32) : Prop := MI l G yX12_dealt cX12_dealt 3 (some .int) 14 0 0 [.ref h0, .int 0, .int xx] [(h0, oX12 nw nk mhasKept nt mtaped nr mrowMany mroundOf mroundFrom mouts nm mfromHour mtoHour ns mfrom mto msort misFault mdeep mcoded mlines nl nc nF np ntr nb mbestCost nso nsi nit nsh nsf nss nrc (nI jr) (nI jd) mnumber mwhose msize misParted), (nrc, iA G 30 fnrc)] (fun (r : Int32) (u : Nat × Int32 × (Nat → Int32)) => (True) ∧ (u.1 ≤ 30)) (fun u : Nat × Int32 × (Nat → Int32) => [(h0, oX12 nw nk mhasKept nt mtaped nr mrowMany mroundOf mroundFrom mouts nm mfromHour mtoHour ns mfrom mto msort misFault mdeep mcoded mlines nl nc nF np ntr nb mbestCost nso nsi nit nsh nsf nss nrc (nI u.1) (nI jd) mnumber mwhose msize u.2.1), (nrc, iA G 30 u.2.2)])
set_option maxHeartbeats 4000000 in
set_option maxRecDepth 100000 in
theorem m_dealt0 (l : Launch) (G : GG) (h0 : Nat) (xx : Int32) (nw : Nat) (nk : Nat) (mhasKept : Int32) (nt : Nat) (mtaped : Int32) (nr : Nat) (mrowMany : Int32) (mroundOf : Int32) (mroundFrom : Int32) (mouts : Int32) (nm : Nat) (mfromHour : Int32) (mtoHour : Int32) (ns : Nat) (mfrom : Int32) (mto : Int32) (msort : Int32) (misFault : Int32) (mdeep : Int32) (mcoded : Int32) (mlines : Int32) (nl : Nat) (nc : Nat) (nF : Nat) (np : Nat) (ntr : Nat) (nb : Nat) (mbestCost : Int32) (nso : Nat) (nsi : Nat) (nit : Nat) (nsh : Nat) (nsf : Nat) (nss : Nat) (nrc : Nat) (jr : Nat) (jd : Nat) (mnumber : Int32) (mwhose : Int32) (msize : Int32) (misParted : Int32) (fnrc : Nat → Int32) (hjr : jr ≤ 30) (hjd : jd < 7) : K_m_dealt0 l G h0 xx nw nk mhasKept nt mtaped nr mrowMany mroundOf mroundFrom mouts nm mfromHour mtoHour ns mfrom mto msort misFault mdeep mcoded mlines nl nc nF np ntr nb mbestCost nso nsi nit nsh nsf nss nrc jr jd mnumber mwhose msize misParted fnrc := by
  refine MI.start (by decide +kernel) (Nat.le_of_ble_eq_true rfl) ?_
  intro p e s m below meth c A ls hC hK hP hD hS hA hl
  refine absQ (fun Q0 hQ0 => ?_)
  have hl : lv_has ls 3 [(0, .ref h0), (1, .int 0), (2, .int xx)] := hl
  refine Kan8 hC (fun hx hb hr hml hB hown hlocks hnm => ?_)
  refine lv_aload_n hx hb gX12_dealt_0.1 rfl (lv_at0 hl) ?_
  refine lv_aload_n hx hb gX12_dealt_0.2.1 rfl (lv_at0 hl) ?_
  refine gf_X12_354 hC rfl hK hP 0 rfl rfl gX12_dealt_0.2.2.1 ?_
  refine lv_iload_n hx hb gX12_dealt_0.2.2.2.1 rfl (lv_at1 hl) ?_
  refine lv_iload_n hx hb gX12_dealt_0.2.2.2.2.1 rfl (lv_at2 hl) ?_
  rcases (show jd = 0 ∨ jd = 1 ∨ jd = 2 ∨ jd = 3 ∨ jd = 4 ∨ jd = 5 ∨ jd = 6 by omega) with rfl | rfl | rfl | rfl | rfl | rfl | rfl
  · refine iV (wr := []) hC hK hl hP hD hS hA (m_from00 l G h0 xx nw nk mhasKept nt mtaped nr mrowMany mroundOf mroundFrom mouts nm mfromHour mtoHour ns mfrom mto msort misFault mdeep mcoded mlines nl nc nF np ntr nb mbestCost nso nsi nit nsh nsf nss nrc jr 0 mnumber mwhose msize misParted fnrc (hjr) (hjd)) si_X12_357 [0, 1] [] sm_0_1 fm_0_1 nd_0_1 rfl rfl (by decide) rfl rfl rfl rfl rfl (Nat.le_of_ble_eq_true rfl) rm_14_4_5 ⟨Nat.le_of_ble_eq_true rfl, Nat.le_of_ble_eq_true rfl⟩ gX12_dealt_0.2.2.2.2.2.1 (fun r6250 => Ktu3 fun jr16252 ip16253 gtrc6254 => ?_)
    intro H locs hr6250 hP hD hS
    try dsimp only at hr6250
    refine Kpdr (ws := [(h0, oX12 nw nk mhasKept nt mtaped nr mrowMany mroundOf mroundFrom mouts nm mfromHour mtoHour ns mfrom mto msort misFault mdeep mcoded mlines nl nc nF np ntr nb mbestCost nso nsi nit nsh nsf nss nrc (nI jr16252) 0 mnumber mwhose msize ip16253), (nrc, iA G 30 gtrc6254)]) hP hD (fun hP hD => ?_)
    obtain ⟨hr6250, w6255⟩ := hr6250
    refine toQ hQ0 ?_
    exact RI (v := r6250) hC hP hD hS [0, 1] (jr16252, ip16253, gtrc6254) rfl rfl (by decide) (⟨trivial, by omega⟩) rfl gX12_dealt_0.2.2.2.2.2.2
  · refine iV (wr := []) hC hK hl hP hD hS hA (m_from10 l G h0 xx nw nk mhasKept nt mtaped nr mrowMany mroundOf mroundFrom mouts nm mfromHour mtoHour ns mfrom mto msort misFault mdeep mcoded mlines nl nc nF np ntr nb mbestCost nso nsi nit nsh nsf nss nrc jr 1 mnumber mwhose msize misParted fnrc (hjr) (hjd)) si_X12_357 [0, 1] [] sm_0_1 fm_0_1 nd_0_1 rfl rfl (by decide) rfl rfl rfl rfl rfl (Nat.le_of_ble_eq_true rfl) rm_14_12_5 ⟨Nat.le_of_ble_eq_true rfl, Nat.le_of_ble_eq_true rfl⟩ gX12_dealt_0.2.2.2.2.2.1 (fun r6256 => Ktu3 fun jr16258 ip16259 gtrc6260 => ?_)
    intro H locs hr6256 hP hD hS
    try dsimp only at hr6256
    refine Kpdr (ws := [(h0, oX12 nw nk mhasKept nt mtaped nr mrowMany mroundOf mroundFrom mouts nm mfromHour mtoHour ns mfrom mto msort misFault mdeep mcoded mlines nl nc nF np ntr nb mbestCost nso nsi nit nsh nsf nss nrc (nI jr16258) 1 mnumber mwhose msize ip16259), (nrc, iA G 30 gtrc6260)]) hP hD (fun hP hD => ?_)
    obtain ⟨hr6256, w6261⟩ := hr6256
    refine toQ hQ0 ?_
    exact RI (v := r6256) hC hP hD hS [0, 1] (jr16258, ip16259, gtrc6260) rfl rfl (by decide) (⟨trivial, by omega⟩) rfl gX12_dealt_0.2.2.2.2.2.2
  · refine iV (wr := []) hC hK hl hP hD hS hA (m_from20 l G h0 xx nw nk mhasKept nt mtaped nr mrowMany mroundOf mroundFrom mouts nm mfromHour mtoHour ns mfrom mto msort misFault mdeep mcoded mlines nl nc nF np ntr nb mbestCost nso nsi nit nsh nsf nss nrc jr 2 mnumber mwhose msize misParted fnrc (hjr) (hjd)) si_X12_357 [0, 1] [] sm_0_1 fm_0_1 nd_0_1 rfl rfl (by decide) rfl rfl rfl rfl rfl (Nat.le_of_ble_eq_true rfl) rm_14_12_5 ⟨Nat.le_of_ble_eq_true rfl, Nat.le_of_ble_eq_true rfl⟩ gX12_dealt_0.2.2.2.2.2.1 (fun r6262 => Ktu3 fun jr16264 ip16265 gtrc6266 => ?_)
    intro H locs hr6262 hP hD hS
    try dsimp only at hr6262
    refine Kpdr (ws := [(h0, oX12 nw nk mhasKept nt mtaped nr mrowMany mroundOf mroundFrom mouts nm mfromHour mtoHour ns mfrom mto msort misFault mdeep mcoded mlines nl nc nF np ntr nb mbestCost nso nsi nit nsh nsf nss nrc (nI jr16264) 2 mnumber mwhose msize ip16265), (nrc, iA G 30 gtrc6266)]) hP hD (fun hP hD => ?_)
    obtain ⟨hr6262, w6267⟩ := hr6262
    refine toQ hQ0 ?_
    exact RI (v := r6262) hC hP hD hS [0, 1] (jr16264, ip16265, gtrc6266) rfl rfl (by decide) (⟨trivial, by omega⟩) rfl gX12_dealt_0.2.2.2.2.2.2
  · refine iV (wr := []) hC hK hl hP hD hS hA (m_from30 l G h0 xx nw nk mhasKept nt mtaped nr mrowMany mroundOf mroundFrom mouts nm mfromHour mtoHour ns mfrom mto msort misFault mdeep mcoded mlines nl nc nF np ntr nb mbestCost nso nsi nit nsh nsf nss nrc jr 3 mnumber mwhose msize misParted fnrc (hjr) (hjd)) si_X12_357 [0, 1] [] sm_0_1 fm_0_1 nd_0_1 rfl rfl (by decide) rfl rfl rfl rfl rfl (Nat.le_of_ble_eq_true rfl) rm_14_12_5 ⟨Nat.le_of_ble_eq_true rfl, Nat.le_of_ble_eq_true rfl⟩ gX12_dealt_0.2.2.2.2.2.1 (fun r6268 => Ktu3 fun jr16270 ip16271 gtrc6272 => ?_)
    intro H locs hr6268 hP hD hS
    try dsimp only at hr6268
    refine Kpdr (ws := [(h0, oX12 nw nk mhasKept nt mtaped nr mrowMany mroundOf mroundFrom mouts nm mfromHour mtoHour ns mfrom mto msort misFault mdeep mcoded mlines nl nc nF np ntr nb mbestCost nso nsi nit nsh nsf nss nrc (nI jr16270) 3 mnumber mwhose msize ip16271), (nrc, iA G 30 gtrc6272)]) hP hD (fun hP hD => ?_)
    obtain ⟨hr6268, w6273⟩ := hr6268
    refine toQ hQ0 ?_
    exact RI (v := r6268) hC hP hD hS [0, 1] (jr16270, ip16271, gtrc6272) rfl rfl (by decide) (⟨trivial, by omega⟩) rfl gX12_dealt_0.2.2.2.2.2.2
  · refine iV (wr := []) hC hK hl hP hD hS hA (m_from40 l G h0 xx nw nk mhasKept nt mtaped nr mrowMany mroundOf mroundFrom mouts nm mfromHour mtoHour ns mfrom mto msort misFault mdeep mcoded mlines nl nc nF np ntr nb mbestCost nso nsi nit nsh nsf nss nrc jr 4 mnumber mwhose msize misParted fnrc (hjr) (hjd)) si_X12_357 [0, 1] [] sm_0_1 fm_0_1 nd_0_1 rfl rfl (by decide) rfl rfl rfl rfl rfl (Nat.le_of_ble_eq_true rfl) rm_14_6_5 ⟨Nat.le_of_ble_eq_true rfl, Nat.le_of_ble_eq_true rfl⟩ gX12_dealt_0.2.2.2.2.2.1 (fun r6274 => Ktu3 fun jr16276 ip16277 gtrc6278 => ?_)
    intro H locs hr6274 hP hD hS
    try dsimp only at hr6274
    refine Kpdr (ws := [(h0, oX12 nw nk mhasKept nt mtaped nr mrowMany mroundOf mroundFrom mouts nm mfromHour mtoHour ns mfrom mto msort misFault mdeep mcoded mlines nl nc nF np ntr nb mbestCost nso nsi nit nsh nsf nss nrc (nI jr16276) 4 mnumber mwhose msize ip16277), (nrc, iA G 30 gtrc6278)]) hP hD (fun hP hD => ?_)
    obtain ⟨hr6274, w6279⟩ := hr6274
    refine toQ hQ0 ?_
    exact RI (v := r6274) hC hP hD hS [0, 1] (jr16276, ip16277, gtrc6278) rfl rfl (by decide) (⟨trivial, by omega⟩) rfl gX12_dealt_0.2.2.2.2.2.2
  · refine iV (wr := []) hC hK hl hP hD hS hA (m_from50 l G h0 xx nw nk mhasKept nt mtaped nr mrowMany mroundOf mroundFrom mouts nm mfromHour mtoHour ns mfrom mto msort misFault mdeep mcoded mlines nl nc nF np ntr nb mbestCost nso nsi nit nsh nsf nss nrc jr 5 mnumber mwhose msize misParted fnrc (hjr) (hjd)) si_X12_357 [0, 1] [] sm_0_1 fm_0_1 nd_0_1 rfl rfl (by decide) rfl rfl rfl rfl rfl (Nat.le_of_ble_eq_true rfl) rm_14_8_5 ⟨Nat.le_of_ble_eq_true rfl, Nat.le_of_ble_eq_true rfl⟩ gX12_dealt_0.2.2.2.2.2.1 (fun r6280 => Ktu3 fun jr16282 ip16283 gtrc6284 => ?_)
    intro H locs hr6280 hP hD hS
    try dsimp only at hr6280
    refine Kpdr (ws := [(h0, oX12 nw nk mhasKept nt mtaped nr mrowMany mroundOf mroundFrom mouts nm mfromHour mtoHour ns mfrom mto msort misFault mdeep mcoded mlines nl nc nF np ntr nb mbestCost nso nsi nit nsh nsf nss nrc (nI jr16282) 5 mnumber mwhose msize ip16283), (nrc, iA G 30 gtrc6284)]) hP hD (fun hP hD => ?_)
    obtain ⟨hr6280, w6285⟩ := hr6280
    refine toQ hQ0 ?_
    exact RI (v := r6280) hC hP hD hS [0, 1] (jr16282, ip16283, gtrc6284) rfl rfl (by decide) (⟨trivial, by omega⟩) rfl gX12_dealt_0.2.2.2.2.2.2
  · refine iV (wr := []) hC hK hl hP hD hS hA (m_from60 l G h0 xx nw nk mhasKept nt mtaped nr mrowMany mroundOf mroundFrom mouts nm mfromHour mtoHour ns mfrom mto msort misFault mdeep mcoded mlines nl nc nF np ntr nb mbestCost nso nsi nit nsh nsf nss nrc jr 6 mnumber mwhose msize misParted fnrc (hjr) (hjd)) si_X12_357 [0, 1] [] sm_0_1 fm_0_1 nd_0_1 rfl rfl (by decide) rfl rfl rfl rfl rfl (Nat.le_of_ble_eq_true rfl) rm_14_12_5 ⟨Nat.le_of_ble_eq_true rfl, Nat.le_of_ble_eq_true rfl⟩ gX12_dealt_0.2.2.2.2.2.1 (fun r6286 => Ktu3 fun jr16288 ip16289 gtrc6290 => ?_)
    intro H locs hr6286 hP hD hS
    try dsimp only at hr6286
    refine Kpdr (ws := [(h0, oX12 nw nk mhasKept nt mtaped nr mrowMany mroundOf mroundFrom mouts nm mfromHour mtoHour ns mfrom mto msort misFault mdeep mcoded mlines nl nc nF np ntr nb mbestCost nso nsi nit nsh nsf nss nrc (nI jr16288) 6 mnumber mwhose msize ip16289), (nrc, iA G 30 gtrc6290)]) hP hD (fun hP hD => ?_)
    obtain ⟨hr6286, w6291⟩ := hr6286
    refine toQ hQ0 ?_
    exact RI (v := r6286) hC hP hD hS [0, 1] (jr16288, ip16289, gtrc6290) rfl rfl (by decide) (⟨trivial, by omega⟩) rfl gX12_dealt_0.2.2.2.2.2.2
def K_m_body01 (l : Launch) (G : GG) (h0 : Nat) (xx : Int32) (nw : Nat) (nk : Nat) (mhasKept : Int32) (nt : Nat) (mtaped : Int32) (nr : Nat) (mrowMany : Int32) (mroundOf : Int32) (mroundFrom : Int32) (mouts : Int32) (nm : Nat) (mfromHour : Int32) (mtoHour : Int32) (ns : Nat) (mfrom : Int32) (mto : Int32) (msort : Int32) (misFault : Int32) (mdeep : Int32) (mcoded : Int32) (mlines : Int32) (nl : Nat) (nc : Nat) (nF : Nat) (np : Nat) (ntr : Nat) (nb : Nat) (mbestCost : Int32) (nso : Nat) (nsi : Nat) (nit : Nat) (nsh : Nat) (nsf : Nat) (nss : Nat) (nrc : Nat) (jr : Nat) (jd : Nat) (mnumber : Int32) (mwhose : Int32) (msize : Int32) (misParted : Int32) (fnrc : Nat → Int32) : Prop := MI l G yX12_body cX12_body 6 (some .int) 15 0 0 [.ref h0, .int 0, .int 1, .int xx] [(h0, oX12 nw nk mhasKept nt mtaped nr mrowMany mroundOf mroundFrom mouts nm mfromHour mtoHour ns mfrom mto msort misFault mdeep mcoded mlines nl nc nF np ntr nb mbestCost nso nsi nit nsh nsf nss nrc (nI jr) (nI jd) mnumber mwhose msize misParted), (nrc, iA G 30 fnrc)] (fun (r : Int32) (u : Nat × Int32 × (Nat → Int32)) => (True) ∧ (u.1 ≤ 30)) (fun u : Nat × Int32 × (Nat → Int32) => [(h0, oX12 nw nk mhasKept nt mtaped nr mrowMany mroundOf mroundFrom mouts nm mfromHour mtoHour ns mfrom mto msort misFault mdeep mcoded mlines nl nc nF np ntr nb mbestCost nso nsi nit nsh nsf nss nrc (nI u.1) (nI jd) mnumber mwhose msize u.2.1), (nrc, iA G 30 u.2.2)])
set_option maxHeartbeats 4000000 in
set_option maxRecDepth 100000 in
theorem m_body01 (l : Launch) (G : GG) (h0 : Nat) (xx : Int32) (nw : Nat) (nk : Nat) (mhasKept : Int32) (nt : Nat) (mtaped : Int32) (nr : Nat) (mrowMany : Int32) (mroundOf : Int32) (mroundFrom : Int32) (mouts : Int32) (nm : Nat) (mfromHour : Int32) (mtoHour : Int32) (ns : Nat) (mfrom : Int32) (mto : Int32) (msort : Int32) (misFault : Int32) (mdeep : Int32) (mcoded : Int32) (mlines : Int32) (nl : Nat) (nc : Nat) (nF : Nat) (np : Nat) (ntr : Nat) (nb : Nat) (mbestCost : Int32) (nso : Nat) (nsi : Nat) (nit : Nat) (nsh : Nat) (nsf : Nat) (nss : Nat) (nrc : Nat) (jr : Nat) (jd : Nat) (mnumber : Int32) (mwhose : Int32) (msize : Int32) (misParted : Int32) (fnrc : Nat → Int32) (hjr : jr ≤ 30) (hjd : jd < 7) : K_m_body01 l G h0 xx nw nk mhasKept nt mtaped nr mrowMany mroundOf mroundFrom mouts nm mfromHour mtoHour ns mfrom mto msort misFault mdeep mcoded mlines nl nc nF np ntr nb mbestCost nso nsi nit nsh nsf nss nrc jr jd mnumber mwhose msize misParted fnrc := by
  refine MI.start (by decide +kernel) (Nat.le_of_ble_eq_true rfl) ?_
  intro p e s m below meth c A ls hC hK hP hD hS hA hl
  refine absQ (fun Q0 hQ0 => ?_)
  have hl : lv_has ls 6 [(0, .ref h0), (1, .int 0), (2, .int 1), (3, .int xx)] := hl
  refine Kan8 hC (fun hx hb hr hml hB hown hlocks hnm => ?_)
  refine lv_iconst (v := 4) hx hb gX12_body_0.1 (by decide) ?_
  refine lv_iload_n hx hb gX12_body_0.2.1 rfl (lv_at1 hl) ?_
  refine lv_imul hx hb gX12_body_0.2.2.1 ?_
  refine eqi (x1 := 0) (by decide) ?_
  refine lv_iload_n hx hb gX12_body_0.2.2.2.1 rfl (lv_at2 hl) ?_
  refine lv_iadd hx hb gX12_body_0.2.2.2.2.1 ?_
  refine eqi (x1 := 1) (by decide) ?_
  refine lv_tableIn (tgt := 125) hx hb gX12_body_0.2.2.2.2.2.1 (by decide) (by decide) rfl (by decide) ?_
  refine lv_aload_n hx hb gX12_body_1.2.2.2.2.1 rfl (lv_at0 hl) ?_
  refine lv_bipush (v := 11) hx hb gX12_body_1.2.2.2.2.2.1 (by decide) ?_
  refine vV (wr := []) hC hK hl hP hD hS hA (m_began l G h0 11 nw nk mhasKept nt mtaped nr mrowMany mroundOf mroundFrom mouts nm mfromHour mtoHour ns mfrom mto msort misFault mdeep mcoded mlines nl nc nF np ntr nb mbestCost nso nsi nit nsh nsf nss nrc jr (nI jd) mnumber mwhose msize misParted fnrc (hjr)) si_X12_366 [0, 1] [] sm_0_1 fm_0_1 nd_0_1 rfl rfl (by decide) rfl rfl rfl rfl rfl (Nat.le_of_ble_eq_true rfl) rm_15_1_2 ⟨Nat.le_of_ble_eq_true rfl, Nat.le_of_ble_eq_true rfl⟩ gX12_body_1.2.2.2.2.2.2.1 (Ktu2 fun jr16294 gtrc6295 => ?_)
  intro H locs hr6292 hP hD hS
  try dsimp only at hr6292
  refine Kpdr (ws := [(h0, oX12 nw nk mhasKept nt mtaped nr mrowMany mroundOf mroundFrom mouts nm mfromHour mtoHour ns mfrom mto msort misFault mdeep mcoded mlines nl nc nF np ntr nb mbestCost nso nsi nit nsh nsf nss nrc (nI jr16294) (nI jd) mnumber mwhose msize misParted), (nrc, iA G 30 gtrc6295)]) hP hD (fun hP hD => ?_)
  have w6296 := hr6292
  refine lv_aload_n hx hb gX12_body_1.2.2.2.2.2.2.2.1 rfl (lv_at0 hl) ?_
  refine lv_iconst (v := 0) hx hb gX12_body_1.2.2.2.2.2.2.2.2.1 (by decide) ?_
  refine lv_iload_n hx hb gX12_body_1.2.2.2.2.2.2.2.2.2 rfl (lv_at3 hl) ?_
  refine iV (wr := []) hC hK hl hP hD hS hA (m_dealt0 l G h0 xx nw nk mhasKept nt mtaped nr mrowMany mroundOf mroundFrom mouts nm mfromHour mtoHour ns mfrom mto msort misFault mdeep mcoded mlines nl nc nF np ntr nb mbestCost nso nsi nit nsh nsf nss nrc jr16294 jd mnumber mwhose msize misParted gtrc6295 (w6296) (hjd)) si_X12_372 [0, 1] [] sm_0_1 fm_0_1 nd_0_1 rfl rfl (by decide) rfl rfl rfl rfl rfl (Nat.le_of_ble_eq_true rfl) rm_15_14_3 ⟨Nat.le_of_ble_eq_true rfl, Nat.le_of_ble_eq_true rfl⟩ gX12_body_2.1 (fun r6297 => Ktu3 fun jr16299 ip16300 gtrc6301 => ?_)
  intro H locs hr6297 hP hD hS
  try dsimp only at hr6297
  refine Kpdr (ws := [(h0, oX12 nw nk mhasKept nt mtaped nr mrowMany mroundOf mroundFrom mouts nm mfromHour mtoHour ns mfrom mto msort misFault mdeep mcoded mlines nl nc nF np ntr nb mbestCost nso nsi nit nsh nsf nss nrc (nI jr16299) (nI jd) mnumber mwhose msize ip16300), (nrc, iA G 30 gtrc6301)]) hP hD (fun hP hD => ?_)
  obtain ⟨hr6297, w6302⟩ := hr6297
  refine lv_iconst (v := 2) hx hb gX12_body_2.2.1 (by decide) ?_
  refine lv_imul hx hb gX12_body_2.2.2.1 ?_
  refine toQ hQ0 ?_
  exact RI (v := r6297 * 2) hC hP hD hS [0, 1] (jr16299, ip16300, gtrc6301) rfl rfl (by decide) (⟨trivial, by omega⟩) rfl gX12_body_2.2.2.2.1
def K_m_from01 (l : Launch) (G : GG) (h0 : Nat) (xx : Int32) (nw : Nat) (nk : Nat) (mhasKept : Int32) (nt : Nat) (mtaped : Int32) (nr : Nat) (mrowMany : Int32) (mroundOf : Int32) (mroundFrom : Int32) (mouts : Int32) (nm : Nat) (mfromHour : Int32) (mtoHour : Int32) (ns : Nat) (mfrom : Int32) (mto : Int32) (msort : Int32) (misFault : Int32) (mdeep : Int32) (mcoded : Int32) (mlines : Int32) (nl : Nat) (nc : Nat) (nF : Nat) (np : Nat) (ntr : Nat) (nb : Nat) (mbestCost : Int32) (nso : Nat) (nsi : Nat) (nit : Nat) (nsh : Nat) (nsf : Nat) (nss : Nat) (nrc : Nat) (jr : Nat) (jd : Nat) (mnumber : Int32) (mwhose : Int32) (msize : Int32) (misParted : Int32) (fnrc : Nat → Int32) : Prop := MI l G yX12_bodyFrom cX12_bodyFrom 5 (some .int) 16 0 0 [.ref h0, .int 0, .int 1, .int xx] [(h0, oX12 nw nk mhasKept nt mtaped nr mrowMany mroundOf mroundFrom mouts nm mfromHour mtoHour ns mfrom mto msort misFault mdeep mcoded mlines nl nc nF np ntr nb mbestCost nso nsi nit nsh nsf nss nrc (nI jr) (nI jd) mnumber mwhose msize misParted), (nrc, iA G 30 fnrc)] (fun (r : Int32) (u : Nat × Int32 × (Nat → Int32)) => (True) ∧ (u.1 ≤ 30)) (fun u : Nat × Int32 × (Nat → Int32) => [(h0, oX12 nw nk mhasKept nt mtaped nr mrowMany mroundOf mroundFrom mouts nm mfromHour mtoHour ns mfrom mto msort misFault mdeep mcoded mlines nl nc nF np ntr nb mbestCost nso nsi nit nsh nsf nss nrc (nI u.1) (nI jd) mnumber mwhose msize u.2.1), (nrc, iA G 30 u.2.2)])
set_option maxHeartbeats 4000000 in
set_option maxRecDepth 100000 in
theorem m_from01 (l : Launch) (G : GG) (h0 : Nat) (xx : Int32) (nw : Nat) (nk : Nat) (mhasKept : Int32) (nt : Nat) (mtaped : Int32) (nr : Nat) (mrowMany : Int32) (mroundOf : Int32) (mroundFrom : Int32) (mouts : Int32) (nm : Nat) (mfromHour : Int32) (mtoHour : Int32) (ns : Nat) (mfrom : Int32) (mto : Int32) (msort : Int32) (misFault : Int32) (mdeep : Int32) (mcoded : Int32) (mlines : Int32) (nl : Nat) (nc : Nat) (nF : Nat) (np : Nat) (ntr : Nat) (nb : Nat) (mbestCost : Int32) (nso : Nat) (nsi : Nat) (nit : Nat) (nsh : Nat) (nsf : Nat) (nss : Nat) (nrc : Nat) (jr : Nat) (jd : Nat) (mnumber : Int32) (mwhose : Int32) (msize : Int32) (misParted : Int32) (fnrc : Nat → Int32) (hjr : jr ≤ 30) (hjd : jd < 7) : K_m_from01 l G h0 xx nw nk mhasKept nt mtaped nr mrowMany mroundOf mroundFrom mouts nm mfromHour mtoHour ns mfrom mto msort misFault mdeep mcoded mlines nl nc nF np ntr nb mbestCost nso nsi nit nsh nsf nss nrc jr jd mnumber mwhose msize misParted fnrc := by
  refine MI.start (by decide +kernel) (Nat.le_of_ble_eq_true rfl) ?_
  intro p e s m below meth c A ls hC hK hP hD hS hA hl
  refine absQ (fun Q0 hQ0 => ?_)
  have hl : lv_has ls 5 [(0, .ref h0), (1, .int 0), (2, .int 1), (3, .int xx)] := hl
  refine Kan8 hC (fun hx hb hr hml hB hown hlocks hnm => ?_)
  refine lv_iload_n hx hb gX12_bodyFrom_0.1 rfl (lv_at1 hl) ?_
  refine lv_istore (lv' := [(4, .int 0), (0, .ref h0), (1, .int 0), (2, .int 1), (3, .int xx)]) hx hb gX12_bodyFrom_0.2.1 hl (by decide) rfl (fun ls hl => ?_)
  refine lv_iload hx hb gX12_bodyFrom_0.2.2.1 (lv_at0 hl) ?_
  refine lv_iload_n hx hb gX12_bodyFrom_0.2.2.2.1 rfl (lv_at3 hl) ?_
  refine pS hC hK hl (m_hasOwn01 l G) si_X12_360 rfl rfl (Nat.le_of_ble_eq_true rfl) rm_16_1_2 ⟨by first | exact Nat.le_of_ble_eq_true rfl | exact Nat.zero_le _, by first | exact Nat.le_of_ble_eq_true rfl | exact Nat.zero_le _⟩ gX12_bodyFrom_0.2.2.2.2.1 (Keqr ?_)
  refine lv_if_ne (tgt := 22) hx hb gX12_bodyFrom_0.2.2.2.2.2.1 (by decide) (fun _ => ?_) (fun c9 => absurd c9 (by decide))
  refine lv_aload_n hx hb gX12_bodyFrom_1.1 rfl (lv_at1 hl) ?_
  refine lv_iload hx hb gX12_bodyFrom_1.2.1 (lv_at0 hl) ?_
  refine lv_iload_n hx hb gX12_bodyFrom_1.2.2.1 rfl (lv_at3 hl) ?_
  refine lv_iload_n hx hb gX12_bodyFrom_1.2.2.2.1 rfl (lv_at4 hl) ?_
  refine iV (wr := []) hC hK hl hP hD hS hA (m_body01 l G h0 xx nw nk mhasKept nt mtaped nr mrowMany mroundOf mroundFrom mouts nm mfromHour mtoHour ns mfrom mto msort misFault mdeep mcoded mlines nl nc nF np ntr nb mbestCost nso nsi nit nsh nsf nss nrc jr jd mnumber mwhose msize misParted fnrc (hjr) (hjd)) si_X12_363 [0, 1] [] sm_0_1 fm_0_1 nd_0_1 rfl rfl (by decide) rfl rfl rfl rfl rfl (Nat.le_of_ble_eq_true rfl) rm_16_15_6 ⟨Nat.le_of_ble_eq_true rfl, Nat.le_of_ble_eq_true rfl⟩ gX12_bodyFrom_1.2.2.2.2.1 (fun r6305 => Ktu3 fun jr16307 ip16308 gtrc6309 => ?_)
  intro H locs hr6305 hP hD hS
  try dsimp only at hr6305
  refine Kpdr (ws := [(h0, oX12 nw nk mhasKept nt mtaped nr mrowMany mroundOf mroundFrom mouts nm mfromHour mtoHour ns mfrom mto msort misFault mdeep mcoded mlines nl nc nF np ntr nb mbestCost nso nsi nit nsh nsf nss nrc (nI jr16307) (nI jd) mnumber mwhose msize ip16308), (nrc, iA G 30 gtrc6309)]) hP hD (fun hP hD => ?_)
  obtain ⟨hr6305, w6310⟩ := hr6305
  refine toQ hQ0 ?_
  exact RI (v := r6305) hC hP hD hS [0, 1] (jr16307, ip16308, gtrc6309) rfl rfl (by decide) (⟨trivial, by omega⟩) rfl gX12_bodyFrom_1.2.2.2.2.2
def K_m_body11 (l : Launch) (G : GG) (h0 : Nat) (xx : Int32) (nw : Nat) (nk : Nat) (mhasKept : Int32) (nt : Nat) (mtaped : Int32) (nr : Nat) (mrowMany : Int32) (mroundOf : Int32) (mroundFrom : Int32) (mouts : Int32) (nm : Nat) (mfromHour : Int32) (mtoHour : Int32) (ns : Nat) (mfrom : Int32) (mto : Int32) (msort : Int32) (misFault : Int32) (mdeep : Int32) (mcoded : Int32) (mlines : Int32) (nl : Nat) (nc : Nat) (nF : Nat) (np : Nat) (ntr : Nat) (nb : Nat) (mbestCost : Int32) (nso : Nat) (nsi : Nat) (nit : Nat) (nsh : Nat) (nsf : Nat) (nss : Nat) (nrc : Nat) (jr : Nat) (jd : Nat) (mnumber : Int32) (mwhose : Int32) (msize : Int32) (misParted : Int32) (fnrc : Nat → Int32) : Prop := MI l G yX12_body cX12_body 6 (some .int) 17 0 0 [.ref h0, .int 1, .int 1, .int xx] [(h0, oX12 nw nk mhasKept nt mtaped nr mrowMany mroundOf mroundFrom mouts nm mfromHour mtoHour ns mfrom mto msort misFault mdeep mcoded mlines nl nc nF np ntr nb mbestCost nso nsi nit nsh nsf nss nrc (nI jr) (nI jd) mnumber mwhose msize misParted), (nrc, iA G 30 fnrc)] (fun (r : Int32) (u : Nat × Int32 × (Nat → Int32)) => (True) ∧ (u.1 ≤ 30)) (fun u : Nat × Int32 × (Nat → Int32) => [(h0, oX12 nw nk mhasKept nt mtaped nr mrowMany mroundOf mroundFrom mouts nm mfromHour mtoHour ns mfrom mto msort misFault mdeep mcoded mlines nl nc nF np ntr nb mbestCost nso nsi nit nsh nsf nss nrc (nI u.1) (nI jd) mnumber mwhose msize u.2.1), (nrc, iA G 30 u.2.2)])
set_option maxHeartbeats 4000000 in
set_option maxRecDepth 100000 in
theorem m_body11 (l : Launch) (G : GG) (h0 : Nat) (xx : Int32) (nw : Nat) (nk : Nat) (mhasKept : Int32) (nt : Nat) (mtaped : Int32) (nr : Nat) (mrowMany : Int32) (mroundOf : Int32) (mroundFrom : Int32) (mouts : Int32) (nm : Nat) (mfromHour : Int32) (mtoHour : Int32) (ns : Nat) (mfrom : Int32) (mto : Int32) (msort : Int32) (misFault : Int32) (mdeep : Int32) (mcoded : Int32) (mlines : Int32) (nl : Nat) (nc : Nat) (nF : Nat) (np : Nat) (ntr : Nat) (nb : Nat) (mbestCost : Int32) (nso : Nat) (nsi : Nat) (nit : Nat) (nsh : Nat) (nsf : Nat) (nss : Nat) (nrc : Nat) (jr : Nat) (jd : Nat) (mnumber : Int32) (mwhose : Int32) (msize : Int32) (misParted : Int32) (fnrc : Nat → Int32) (hjr : jr ≤ 30) (hjd : jd < 7) : K_m_body11 l G h0 xx nw nk mhasKept nt mtaped nr mrowMany mroundOf mroundFrom mouts nm mfromHour mtoHour ns mfrom mto msort misFault mdeep mcoded mlines nl nc nF np ntr nb mbestCost nso nsi nit nsh nsf nss nrc jr jd mnumber mwhose msize misParted fnrc := by
  refine MI.start (by decide +kernel) (Nat.le_of_ble_eq_true rfl) ?_
  intro p e s m below meth c A ls hC hK hP hD hS hA hl
  refine absQ (fun Q0 hQ0 => ?_)
  have hl : lv_has ls 6 [(0, .ref h0), (1, .int 1), (2, .int 1), (3, .int xx)] := hl
  refine Kan8 hC (fun hx hb hr hml hB hown hlocks hnm => ?_)
  refine lv_iconst (v := 4) hx hb gX12_body_0.1 (by decide) ?_
  refine lv_iload_n hx hb gX12_body_0.2.1 rfl (lv_at1 hl) ?_
  refine lv_imul hx hb gX12_body_0.2.2.1 ?_
  refine eqi (x1 := 4) (by decide) ?_
  refine lv_iload_n hx hb gX12_body_0.2.2.2.1 rfl (lv_at2 hl) ?_
  refine lv_iadd hx hb gX12_body_0.2.2.2.2.1 ?_
  refine eqi (x1 := 5) (by decide) ?_
  refine lv_tableIn (tgt := 207) hx hb gX12_body_0.2.2.2.2.2.1 (by decide) (by decide) rfl (by decide) ?_
  refine lv_aload_n hx hb gX12_body_6.2.1 rfl (lv_at0 hl) ?_
  refine lv_bipush (v := 20) hx hb gX12_body_6.2.2.1 (by decide) ?_
  refine vV (wr := []) hC hK hl hP hD hS hA (m_began l G h0 20 nw nk mhasKept nt mtaped nr mrowMany mroundOf mroundFrom mouts nm mfromHour mtoHour ns mfrom mto msort misFault mdeep mcoded mlines nl nc nF np ntr nb mbestCost nso nsi nit nsh nsf nss nrc jr (nI jd) mnumber mwhose msize misParted fnrc (hjr)) si_X12_366 [0, 1] [] sm_0_1 fm_0_1 nd_0_1 rfl rfl (by decide) rfl rfl rfl rfl rfl (Nat.le_of_ble_eq_true rfl) rm_17_1_2 ⟨Nat.le_of_ble_eq_true rfl, Nat.le_of_ble_eq_true rfl⟩ gX12_body_6.2.2.2.1 (Ktu2 fun jr16313 gtrc6314 => ?_)
  intro H locs hr6311 hP hD hS
  try dsimp only at hr6311
  refine Kpdr (ws := [(h0, oX12 nw nk mhasKept nt mtaped nr mrowMany mroundOf mroundFrom mouts nm mfromHour mtoHour ns mfrom mto msort misFault mdeep mcoded mlines nl nc nF np ntr nb mbestCost nso nsi nit nsh nsf nss nrc (nI jr16313) (nI jd) mnumber mwhose msize misParted), (nrc, iA G 30 gtrc6314)]) hP hD (fun hP hD => ?_)
  have w6315 := hr6311
  refine lv_aload_n hx hb gX12_body_6.2.2.2.2.1 rfl (lv_at0 hl) ?_
  refine lv_iconst (v := 0) hx hb gX12_body_6.2.2.2.2.2.1 (by decide) ?_
  refine lv_iconst (v := 1) hx hb gX12_body_6.2.2.2.2.2.2.1 (by decide) ?_
  refine lv_iload_n hx hb gX12_body_6.2.2.2.2.2.2.2.1 rfl (lv_at3 hl) ?_
  refine iV (wr := []) hC hK hl hP hD hS hA (m_from01 l G h0 xx nw nk mhasKept nt mtaped nr mrowMany mroundOf mroundFrom mouts nm mfromHour mtoHour ns mfrom mto msort misFault mdeep mcoded mlines nl nc nF np ntr nb mbestCost nso nsi nit nsh nsf nss nrc jr16313 jd mnumber mwhose msize misParted gtrc6314 (w6315) (hjd)) si_X12_357 [0, 1] [] sm_0_1 fm_0_1 nd_0_1 rfl rfl (by decide) rfl rfl rfl rfl rfl (Nat.le_of_ble_eq_true rfl) rm_17_16_5 ⟨Nat.le_of_ble_eq_true rfl, Nat.le_of_ble_eq_true rfl⟩ gX12_body_6.2.2.2.2.2.2.2.2.1 (fun r6316 => Ktu3 fun jr16318 ip16319 gtrc6320 => ?_)
  intro H locs hr6316 hP hD hS
  try dsimp only at hr6316
  refine Kpdr (ws := [(h0, oX12 nw nk mhasKept nt mtaped nr mrowMany mroundOf mroundFrom mouts nm mfromHour mtoHour ns mfrom mto msort misFault mdeep mcoded mlines nl nc nF np ntr nb mbestCost nso nsi nit nsh nsf nss nrc (nI jr16318) (nI jd) mnumber mwhose msize ip16319), (nrc, iA G 30 gtrc6320)]) hP hD (fun hP hD => ?_)
  obtain ⟨hr6316, w6321⟩ := hr6316
  refine lv_aload_n hx hb gX12_body_6.2.2.2.2.2.2.2.2.2 rfl (lv_at0 hl) ?_
  refine gf_X12_378 hC rfl hK hP 0 rfl rfl gX12_body_7.1 ?_
  refine lv_ixor hx hb gX12_body_7.2.1 ?_
  refine toQ hQ0 ?_
  exact RI (v := r6316 ^^^ mnumber) hC hP hD hS [0, 1] (jr16318, ip16319, gtrc6320) rfl rfl (by decide) (⟨trivial, by omega⟩) rfl gX12_body_7.2.2.1
def K_m_from11 (l : Launch) (G : GG) (h0 : Nat) (xx : Int32) (nw : Nat) (nk : Nat) (mhasKept : Int32) (nt : Nat) (mtaped : Int32) (nr : Nat) (mrowMany : Int32) (mroundOf : Int32) (mroundFrom : Int32) (mouts : Int32) (nm : Nat) (mfromHour : Int32) (mtoHour : Int32) (ns : Nat) (mfrom : Int32) (mto : Int32) (msort : Int32) (misFault : Int32) (mdeep : Int32) (mcoded : Int32) (mlines : Int32) (nl : Nat) (nc : Nat) (nF : Nat) (np : Nat) (ntr : Nat) (nb : Nat) (mbestCost : Int32) (nso : Nat) (nsi : Nat) (nit : Nat) (nsh : Nat) (nsf : Nat) (nss : Nat) (nrc : Nat) (jr : Nat) (jd : Nat) (mnumber : Int32) (mwhose : Int32) (msize : Int32) (misParted : Int32) (fnrc : Nat → Int32) : Prop := MI l G yX12_bodyFrom cX12_bodyFrom 5 (some .int) 18 0 0 [.ref h0, .int 1, .int 1, .int xx] [(h0, oX12 nw nk mhasKept nt mtaped nr mrowMany mroundOf mroundFrom mouts nm mfromHour mtoHour ns mfrom mto msort misFault mdeep mcoded mlines nl nc nF np ntr nb mbestCost nso nsi nit nsh nsf nss nrc (nI jr) (nI jd) mnumber mwhose msize misParted), (nrc, iA G 30 fnrc)] (fun (r : Int32) (u : Nat × Int32 × (Nat → Int32)) => (True) ∧ (u.1 ≤ 30)) (fun u : Nat × Int32 × (Nat → Int32) => [(h0, oX12 nw nk mhasKept nt mtaped nr mrowMany mroundOf mroundFrom mouts nm mfromHour mtoHour ns mfrom mto msort misFault mdeep mcoded mlines nl nc nF np ntr nb mbestCost nso nsi nit nsh nsf nss nrc (nI u.1) (nI jd) mnumber mwhose msize u.2.1), (nrc, iA G 30 u.2.2)])
set_option maxHeartbeats 4000000 in
set_option maxRecDepth 100000 in
theorem m_from11 (l : Launch) (G : GG) (h0 : Nat) (xx : Int32) (nw : Nat) (nk : Nat) (mhasKept : Int32) (nt : Nat) (mtaped : Int32) (nr : Nat) (mrowMany : Int32) (mroundOf : Int32) (mroundFrom : Int32) (mouts : Int32) (nm : Nat) (mfromHour : Int32) (mtoHour : Int32) (ns : Nat) (mfrom : Int32) (mto : Int32) (msort : Int32) (misFault : Int32) (mdeep : Int32) (mcoded : Int32) (mlines : Int32) (nl : Nat) (nc : Nat) (nF : Nat) (np : Nat) (ntr : Nat) (nb : Nat) (mbestCost : Int32) (nso : Nat) (nsi : Nat) (nit : Nat) (nsh : Nat) (nsf : Nat) (nss : Nat) (nrc : Nat) (jr : Nat) (jd : Nat) (mnumber : Int32) (mwhose : Int32) (msize : Int32) (misParted : Int32) (fnrc : Nat → Int32) (hjr : jr ≤ 30) (hjd : jd < 7) : K_m_from11 l G h0 xx nw nk mhasKept nt mtaped nr mrowMany mroundOf mroundFrom mouts nm mfromHour mtoHour ns mfrom mto msort misFault mdeep mcoded mlines nl nc nF np ntr nb mbestCost nso nsi nit nsh nsf nss nrc jr jd mnumber mwhose msize misParted fnrc := by
  refine MI.start (by decide +kernel) (Nat.le_of_ble_eq_true rfl) ?_
  intro p e s m below meth c A ls hC hK hP hD hS hA hl
  refine absQ (fun Q0 hQ0 => ?_)
  have hl : lv_has ls 5 [(0, .ref h0), (1, .int 1), (2, .int 1), (3, .int xx)] := hl
  refine Kan8 hC (fun hx hb hr hml hB hown hlocks hnm => ?_)
  refine lv_iload_n hx hb gX12_bodyFrom_0.1 rfl (lv_at1 hl) ?_
  refine lv_istore (lv' := [(4, .int 1), (0, .ref h0), (1, .int 1), (2, .int 1), (3, .int xx)]) hx hb gX12_bodyFrom_0.2.1 hl (by decide) rfl (fun ls hl => ?_)
  refine lv_iload hx hb gX12_bodyFrom_0.2.2.1 (lv_at0 hl) ?_
  refine lv_iload_n hx hb gX12_bodyFrom_0.2.2.2.1 rfl (lv_at3 hl) ?_
  refine pS hC hK hl (m_hasOwn11 l G) si_X12_360 rfl rfl (Nat.le_of_ble_eq_true rfl) rm_18_1_2 ⟨by first | exact Nat.le_of_ble_eq_true rfl | exact Nat.zero_le _, by first | exact Nat.le_of_ble_eq_true rfl | exact Nat.zero_le _⟩ gX12_bodyFrom_0.2.2.2.2.1 (Keqr ?_)
  refine lv_if_ne (tgt := 22) hx hb gX12_bodyFrom_0.2.2.2.2.2.1 (by decide) (fun _ => ?_) (fun c9 => absurd c9 (by decide))
  refine lv_aload_n hx hb gX12_bodyFrom_1.1 rfl (lv_at1 hl) ?_
  refine lv_iload hx hb gX12_bodyFrom_1.2.1 (lv_at0 hl) ?_
  refine lv_iload_n hx hb gX12_bodyFrom_1.2.2.1 rfl (lv_at3 hl) ?_
  refine lv_iload_n hx hb gX12_bodyFrom_1.2.2.2.1 rfl (lv_at4 hl) ?_
  refine iV (wr := []) hC hK hl hP hD hS hA (m_body11 l G h0 xx nw nk mhasKept nt mtaped nr mrowMany mroundOf mroundFrom mouts nm mfromHour mtoHour ns mfrom mto msort misFault mdeep mcoded mlines nl nc nF np ntr nb mbestCost nso nsi nit nsh nsf nss nrc jr jd mnumber mwhose msize misParted fnrc (hjr) (hjd)) si_X12_363 [0, 1] [] sm_0_1 fm_0_1 nd_0_1 rfl rfl (by decide) rfl rfl rfl rfl rfl (Nat.le_of_ble_eq_true rfl) rm_18_17_6 ⟨Nat.le_of_ble_eq_true rfl, Nat.le_of_ble_eq_true rfl⟩ gX12_bodyFrom_1.2.2.2.2.1 (fun r6324 => Ktu3 fun jr16326 ip16327 gtrc6328 => ?_)
  intro H locs hr6324 hP hD hS
  try dsimp only at hr6324
  refine Kpdr (ws := [(h0, oX12 nw nk mhasKept nt mtaped nr mrowMany mroundOf mroundFrom mouts nm mfromHour mtoHour ns mfrom mto msort misFault mdeep mcoded mlines nl nc nF np ntr nb mbestCost nso nsi nit nsh nsf nss nrc (nI jr16326) (nI jd) mnumber mwhose msize ip16327), (nrc, iA G 30 gtrc6328)]) hP hD (fun hP hD => ?_)
  obtain ⟨hr6324, w6329⟩ := hr6324
  refine toQ hQ0 ?_
  exact RI (v := r6324) hC hP hD hS [0, 1] (jr16326, ip16327, gtrc6328) rfl rfl (by decide) (⟨trivial, by omega⟩) rfl gX12_bodyFrom_1.2.2.2.2.2
def K_m_body31 (l : Launch) (G : GG) (h0 : Nat) (xx : Int32) (nw : Nat) (nk : Nat) (mhasKept : Int32) (nt : Nat) (mtaped : Int32) (nr : Nat) (mrowMany : Int32) (mroundOf : Int32) (mroundFrom : Int32) (mouts : Int32) (nm : Nat) (mfromHour : Int32) (mtoHour : Int32) (ns : Nat) (mfrom : Int32) (mto : Int32) (msort : Int32) (misFault : Int32) (mdeep : Int32) (mcoded : Int32) (mlines : Int32) (nl : Nat) (nc : Nat) (nF : Nat) (np : Nat) (ntr : Nat) (nb : Nat) (mbestCost : Int32) (nso : Nat) (nsi : Nat) (nit : Nat) (nsh : Nat) (nsf : Nat) (nss : Nat) (nrc : Nat) (jr : Nat) (jd : Nat) (mnumber : Int32) (mwhose : Int32) (msize : Int32) (misParted : Int32) (fnrc : Nat → Int32) : Prop := MI l G yX12_body cX12_body 6 (some .int) 19 0 0 [.ref h0, .int 3, .int 1, .int xx] [(h0, oX12 nw nk mhasKept nt mtaped nr mrowMany mroundOf mroundFrom mouts nm mfromHour mtoHour ns mfrom mto msort misFault mdeep mcoded mlines nl nc nF np ntr nb mbestCost nso nsi nit nsh nsf nss nrc (nI jr) (nI jd) mnumber mwhose msize misParted), (nrc, iA G 30 fnrc)] (fun (r : Int32) (u : Nat × Int32 × (Nat → Int32)) => (True) ∧ (u.1 ≤ 30)) (fun u : Nat × Int32 × (Nat → Int32) => [(h0, oX12 nw nk mhasKept nt mtaped nr mrowMany mroundOf mroundFrom mouts nm mfromHour mtoHour ns mfrom mto msort misFault mdeep mcoded mlines nl nc nF np ntr nb mbestCost nso nsi nit nsh nsf nss nrc (nI u.1) (nI jd) mnumber mwhose msize u.2.1), (nrc, iA G 30 u.2.2)])
set_option maxHeartbeats 4000000 in
set_option maxRecDepth 100000 in
theorem m_body31 (l : Launch) (G : GG) (h0 : Nat) (xx : Int32) (nw : Nat) (nk : Nat) (mhasKept : Int32) (nt : Nat) (mtaped : Int32) (nr : Nat) (mrowMany : Int32) (mroundOf : Int32) (mroundFrom : Int32) (mouts : Int32) (nm : Nat) (mfromHour : Int32) (mtoHour : Int32) (ns : Nat) (mfrom : Int32) (mto : Int32) (msort : Int32) (misFault : Int32) (mdeep : Int32) (mcoded : Int32) (mlines : Int32) (nl : Nat) (nc : Nat) (nF : Nat) (np : Nat) (ntr : Nat) (nb : Nat) (mbestCost : Int32) (nso : Nat) (nsi : Nat) (nit : Nat) (nsh : Nat) (nsf : Nat) (nss : Nat) (nrc : Nat) (jr : Nat) (jd : Nat) (mnumber : Int32) (mwhose : Int32) (msize : Int32) (misParted : Int32) (fnrc : Nat → Int32) (hjr : jr ≤ 30) (hjd : jd < 7) : K_m_body31 l G h0 xx nw nk mhasKept nt mtaped nr mrowMany mroundOf mroundFrom mouts nm mfromHour mtoHour ns mfrom mto msort misFault mdeep mcoded mlines nl nc nF np ntr nb mbestCost nso nsi nit nsh nsf nss nrc jr jd mnumber mwhose msize misParted fnrc := by
  refine MI.start (by decide +kernel) (Nat.le_of_ble_eq_true rfl) ?_
  intro p e s m below meth c A ls hC hK hP hD hS hA hl
  refine absQ (fun Q0 hQ0 => ?_)
  have hl : lv_has ls 6 [(0, .ref h0), (1, .int 3), (2, .int 1), (3, .int xx)] := hl
  refine Kan8 hC (fun hx hb hr hml hB hown hlocks hnm => ?_)
  refine lv_iconst (v := 4) hx hb gX12_body_0.1 (by decide) ?_
  refine lv_iload_n hx hb gX12_body_0.2.1 rfl (lv_at1 hl) ?_
  refine lv_imul hx hb gX12_body_0.2.2.1 ?_
  refine eqi (x1 := 12) (by decide) ?_
  refine lv_iload_n hx hb gX12_body_0.2.2.2.1 rfl (lv_at2 hl) ?_
  refine lv_iadd hx hb gX12_body_0.2.2.2.2.1 ?_
  refine eqi (x1 := 13) (by decide) ?_
  refine lv_tableIn (tgt := 242) hx hb gX12_body_0.2.2.2.2.2.1 (by decide) (by decide) rfl (by decide) ?_
  refine lv_aload_n hx hb gX12_body_8.2.2.2.2.1 rfl (lv_at0 hl) ?_
  refine lv_bipush (v := 40) hx hb gX12_body_8.2.2.2.2.2.1 (by decide) ?_
  refine vV (wr := []) hC hK hl hP hD hS hA (m_began l G h0 40 nw nk mhasKept nt mtaped nr mrowMany mroundOf mroundFrom mouts nm mfromHour mtoHour ns mfrom mto msort misFault mdeep mcoded mlines nl nc nF np ntr nb mbestCost nso nsi nit nsh nsf nss nrc jr (nI jd) mnumber mwhose msize misParted fnrc (hjr)) si_X12_366 [0, 1] [] sm_0_1 fm_0_1 nd_0_1 rfl rfl (by decide) rfl rfl rfl rfl rfl (Nat.le_of_ble_eq_true rfl) rm_19_1_2 ⟨Nat.le_of_ble_eq_true rfl, Nat.le_of_ble_eq_true rfl⟩ gX12_body_8.2.2.2.2.2.2.1 (Ktu2 fun jr16332 gtrc6333 => ?_)
  intro H locs hr6330 hP hD hS
  try dsimp only at hr6330
  refine Kpdr (ws := [(h0, oX12 nw nk mhasKept nt mtaped nr mrowMany mroundOf mroundFrom mouts nm mfromHour mtoHour ns mfrom mto msort misFault mdeep mcoded mlines nl nc nF np ntr nb mbestCost nso nsi nit nsh nsf nss nrc (nI jr16332) (nI jd) mnumber mwhose msize misParted), (nrc, iA G 30 gtrc6333)]) hP hD (fun hP hD => ?_)
  have w6334 := hr6330
  refine lv_iconst (v := 0) hx hb gX12_body_8.2.2.2.2.2.2.2.1 (by decide) ?_
  refine lv_aload_n hx hb gX12_body_8.2.2.2.2.2.2.2.2.1 rfl (lv_at0 hl) ?_
  refine lv_iconst (v := 1) hx hb gX12_body_8.2.2.2.2.2.2.2.2.2 (by decide) ?_
  refine lv_iconst (v := 1) hx hb gX12_body_9.1 (by decide) ?_
  refine lv_iload_n hx hb gX12_body_9.2.1 rfl (lv_at3 hl) ?_
  refine iV (wr := []) hC hK hl hP hD hS hA (m_from11 l G h0 xx nw nk mhasKept nt mtaped nr mrowMany mroundOf mroundFrom mouts nm mfromHour mtoHour ns mfrom mto msort misFault mdeep mcoded mlines nl nc nF np ntr nb mbestCost nso nsi nit nsh nsf nss nrc jr16332 jd mnumber mwhose msize misParted gtrc6333 (w6334) (hjd)) si_X12_357 [0, 1] [] sm_0_1 fm_0_1 nd_0_1 rfl rfl (by decide) rfl rfl rfl rfl rfl (Nat.le_of_ble_eq_true rfl) rm_19_18_5 ⟨Nat.le_of_ble_eq_true rfl, Nat.le_of_ble_eq_true rfl⟩ gX12_body_9.2.2.1 (fun r6335 => Ktu3 fun jr16337 ip16338 gtrc6339 => ?_)
  intro H locs hr6335 hP hD hS
  try dsimp only at hr6335
  refine Kpdr (ws := [(h0, oX12 nw nk mhasKept nt mtaped nr mrowMany mroundOf mroundFrom mouts nm mfromHour mtoHour ns mfrom mto msort misFault mdeep mcoded mlines nl nc nF np ntr nb mbestCost nso nsi nit nsh nsf nss nrc (nI jr16337) (nI jd) mnumber mwhose msize ip16338), (nrc, iA G 30 gtrc6339)]) hP hD (fun hP hD => ?_)
  obtain ⟨hr6335, w6340⟩ := hr6335
  refine lv_isub hx hb gX12_body_9.2.2.2.1 ?_
  refine toQ hQ0 ?_
  exact RI (v := 0 - r6335) hC hP hD hS [0, 1] (jr16337, ip16338, gtrc6339) rfl rfl (by decide) (⟨trivial, by omega⟩) rfl gX12_body_9.2.2.2.2.1
def K_m_from31 (l : Launch) (G : GG) (h0 : Nat) (xx : Int32) (nw : Nat) (nk : Nat) (mhasKept : Int32) (nt : Nat) (mtaped : Int32) (nr : Nat) (mrowMany : Int32) (mroundOf : Int32) (mroundFrom : Int32) (mouts : Int32) (nm : Nat) (mfromHour : Int32) (mtoHour : Int32) (ns : Nat) (mfrom : Int32) (mto : Int32) (msort : Int32) (misFault : Int32) (mdeep : Int32) (mcoded : Int32) (mlines : Int32) (nl : Nat) (nc : Nat) (nF : Nat) (np : Nat) (ntr : Nat) (nb : Nat) (mbestCost : Int32) (nso : Nat) (nsi : Nat) (nit : Nat) (nsh : Nat) (nsf : Nat) (nss : Nat) (nrc : Nat) (jr : Nat) (jd : Nat) (mnumber : Int32) (mwhose : Int32) (msize : Int32) (misParted : Int32) (fnrc : Nat → Int32) : Prop := MI l G yX12_bodyFrom cX12_bodyFrom 5 (some .int) 20 0 0 [.ref h0, .int 3, .int 1, .int xx] [(h0, oX12 nw nk mhasKept nt mtaped nr mrowMany mroundOf mroundFrom mouts nm mfromHour mtoHour ns mfrom mto msort misFault mdeep mcoded mlines nl nc nF np ntr nb mbestCost nso nsi nit nsh nsf nss nrc (nI jr) (nI jd) mnumber mwhose msize misParted), (nrc, iA G 30 fnrc)] (fun (r : Int32) (u : Nat × Int32 × (Nat → Int32)) => (True) ∧ (u.1 ≤ 30)) (fun u : Nat × Int32 × (Nat → Int32) => [(h0, oX12 nw nk mhasKept nt mtaped nr mrowMany mroundOf mroundFrom mouts nm mfromHour mtoHour ns mfrom mto msort misFault mdeep mcoded mlines nl nc nF np ntr nb mbestCost nso nsi nit nsh nsf nss nrc (nI u.1) (nI jd) mnumber mwhose msize u.2.1), (nrc, iA G 30 u.2.2)])
set_option maxHeartbeats 4000000 in
set_option maxRecDepth 100000 in
theorem m_from31 (l : Launch) (G : GG) (h0 : Nat) (xx : Int32) (nw : Nat) (nk : Nat) (mhasKept : Int32) (nt : Nat) (mtaped : Int32) (nr : Nat) (mrowMany : Int32) (mroundOf : Int32) (mroundFrom : Int32) (mouts : Int32) (nm : Nat) (mfromHour : Int32) (mtoHour : Int32) (ns : Nat) (mfrom : Int32) (mto : Int32) (msort : Int32) (misFault : Int32) (mdeep : Int32) (mcoded : Int32) (mlines : Int32) (nl : Nat) (nc : Nat) (nF : Nat) (np : Nat) (ntr : Nat) (nb : Nat) (mbestCost : Int32) (nso : Nat) (nsi : Nat) (nit : Nat) (nsh : Nat) (nsf : Nat) (nss : Nat) (nrc : Nat) (jr : Nat) (jd : Nat) (mnumber : Int32) (mwhose : Int32) (msize : Int32) (misParted : Int32) (fnrc : Nat → Int32) (hjr : jr ≤ 30) (hjd : jd < 7) : K_m_from31 l G h0 xx nw nk mhasKept nt mtaped nr mrowMany mroundOf mroundFrom mouts nm mfromHour mtoHour ns mfrom mto msort misFault mdeep mcoded mlines nl nc nF np ntr nb mbestCost nso nsi nit nsh nsf nss nrc jr jd mnumber mwhose msize misParted fnrc := by
  refine MI.start (by decide +kernel) (Nat.le_of_ble_eq_true rfl) ?_
  intro p e s m below meth c A ls hC hK hP hD hS hA hl
  refine absQ (fun Q0 hQ0 => ?_)
  have hl : lv_has ls 5 [(0, .ref h0), (1, .int 3), (2, .int 1), (3, .int xx)] := hl
  refine Kan8 hC (fun hx hb hr hml hB hown hlocks hnm => ?_)
  refine lv_iload_n hx hb gX12_bodyFrom_0.1 rfl (lv_at1 hl) ?_
  refine lv_istore (lv' := [(4, .int 3), (0, .ref h0), (1, .int 3), (2, .int 1), (3, .int xx)]) hx hb gX12_bodyFrom_0.2.1 hl (by decide) rfl (fun ls hl => ?_)
  refine lv_iload hx hb gX12_bodyFrom_0.2.2.1 (lv_at0 hl) ?_
  refine lv_iload_n hx hb gX12_bodyFrom_0.2.2.2.1 rfl (lv_at3 hl) ?_
  refine pS hC hK hl (m_hasOwn31 l G) si_X12_360 rfl rfl (Nat.le_of_ble_eq_true rfl) rm_20_1_2 ⟨by first | exact Nat.le_of_ble_eq_true rfl | exact Nat.zero_le _, by first | exact Nat.le_of_ble_eq_true rfl | exact Nat.zero_le _⟩ gX12_bodyFrom_0.2.2.2.2.1 (Keqr ?_)
  refine lv_if_ne (tgt := 22) hx hb gX12_bodyFrom_0.2.2.2.2.2.1 (by decide) (fun _ => ?_) (fun c9 => absurd c9 (by decide))
  refine lv_aload_n hx hb gX12_bodyFrom_1.1 rfl (lv_at1 hl) ?_
  refine lv_iload hx hb gX12_bodyFrom_1.2.1 (lv_at0 hl) ?_
  refine lv_iload_n hx hb gX12_bodyFrom_1.2.2.1 rfl (lv_at3 hl) ?_
  refine lv_iload_n hx hb gX12_bodyFrom_1.2.2.2.1 rfl (lv_at4 hl) ?_
  refine iV (wr := []) hC hK hl hP hD hS hA (m_body31 l G h0 xx nw nk mhasKept nt mtaped nr mrowMany mroundOf mroundFrom mouts nm mfromHour mtoHour ns mfrom mto msort misFault mdeep mcoded mlines nl nc nF np ntr nb mbestCost nso nsi nit nsh nsf nss nrc jr jd mnumber mwhose msize misParted fnrc (hjr) (hjd)) si_X12_363 [0, 1] [] sm_0_1 fm_0_1 nd_0_1 rfl rfl (by decide) rfl rfl rfl rfl rfl (Nat.le_of_ble_eq_true rfl) rm_20_19_6 ⟨Nat.le_of_ble_eq_true rfl, Nat.le_of_ble_eq_true rfl⟩ gX12_bodyFrom_1.2.2.2.2.1 (fun r6343 => Ktu3 fun jr16345 ip16346 gtrc6347 => ?_)
  intro H locs hr6343 hP hD hS
  try dsimp only at hr6343
  refine Kpdr (ws := [(h0, oX12 nw nk mhasKept nt mtaped nr mrowMany mroundOf mroundFrom mouts nm mfromHour mtoHour ns mfrom mto msort misFault mdeep mcoded mlines nl nc nF np ntr nb mbestCost nso nsi nit nsh nsf nss nrc (nI jr16345) (nI jd) mnumber mwhose msize ip16346), (nrc, iA G 30 gtrc6347)]) hP hD (fun hP hD => ?_)
  obtain ⟨hr6343, w6348⟩ := hr6343
  refine toQ hQ0 ?_
  exact RI (v := r6343) hC hP hD hS [0, 1] (jr16345, ip16346, gtrc6347) rfl rfl (by decide) (⟨trivial, by omega⟩) rfl gX12_bodyFrom_1.2.2.2.2.2
def K_m_from21 (l : Launch) (G : GG) (h0 : Nat) (xx : Int32) (nw : Nat) (nk : Nat) (mhasKept : Int32) (nt : Nat) (mtaped : Int32) (nr : Nat) (mrowMany : Int32) (mroundOf : Int32) (mroundFrom : Int32) (mouts : Int32) (nm : Nat) (mfromHour : Int32) (mtoHour : Int32) (ns : Nat) (mfrom : Int32) (mto : Int32) (msort : Int32) (misFault : Int32) (mdeep : Int32) (mcoded : Int32) (mlines : Int32) (nl : Nat) (nc : Nat) (nF : Nat) (np : Nat) (ntr : Nat) (nb : Nat) (mbestCost : Int32) (nso : Nat) (nsi : Nat) (nit : Nat) (nsh : Nat) (nsf : Nat) (nss : Nat) (nrc : Nat) (jr : Nat) (jd : Nat) (mnumber : Int32) (mwhose : Int32) (msize : Int32) (misParted : Int32) (fnrc : Nat → Int32) : Prop := MI l G yX12_bodyFrom cX12_bodyFrom 5 (some .int) 24 0 0 [.ref h0, .int 2, .int 1, .int xx] [(h0, oX12 nw nk mhasKept nt mtaped nr mrowMany mroundOf mroundFrom mouts nm mfromHour mtoHour ns mfrom mto msort misFault mdeep mcoded mlines nl nc nF np ntr nb mbestCost nso nsi nit nsh nsf nss nrc (nI jr) (nI jd) mnumber mwhose msize misParted), (nrc, iA G 30 fnrc)] (fun (r : Int32) (u : Nat × Int32 × (Nat → Int32)) => (True) ∧ (u.1 ≤ 30)) (fun u : Nat × Int32 × (Nat → Int32) => [(h0, oX12 nw nk mhasKept nt mtaped nr mrowMany mroundOf mroundFrom mouts nm mfromHour mtoHour ns mfrom mto msort misFault mdeep mcoded mlines nl nc nF np ntr nb mbestCost nso nsi nit nsh nsf nss nrc (nI u.1) (nI jd) mnumber mwhose msize u.2.1), (nrc, iA G 30 u.2.2)])
set_option maxHeartbeats 4000000 in
set_option maxRecDepth 100000 in
theorem m_from21 (l : Launch) (G : GG) (h0 : Nat) (xx : Int32) (nw : Nat) (nk : Nat) (mhasKept : Int32) (nt : Nat) (mtaped : Int32) (nr : Nat) (mrowMany : Int32) (mroundOf : Int32) (mroundFrom : Int32) (mouts : Int32) (nm : Nat) (mfromHour : Int32) (mtoHour : Int32) (ns : Nat) (mfrom : Int32) (mto : Int32) (msort : Int32) (misFault : Int32) (mdeep : Int32) (mcoded : Int32) (mlines : Int32) (nl : Nat) (nc : Nat) (nF : Nat) (np : Nat) (ntr : Nat) (nb : Nat) (mbestCost : Int32) (nso : Nat) (nsi : Nat) (nit : Nat) (nsh : Nat) (nsf : Nat) (nss : Nat) (nrc : Nat) (jr : Nat) (jd : Nat) (mnumber : Int32) (mwhose : Int32) (msize : Int32) (misParted : Int32) (fnrc : Nat → Int32) (hjr : jr ≤ 30) (hjd : jd < 7) : K_m_from21 l G h0 xx nw nk mhasKept nt mtaped nr mrowMany mroundOf mroundFrom mouts nm mfromHour mtoHour ns mfrom mto msort misFault mdeep mcoded mlines nl nc nF np ntr nb mbestCost nso nsi nit nsh nsf nss nrc jr jd mnumber mwhose msize misParted fnrc := by
  refine MI.start (by decide +kernel) (Nat.le_of_ble_eq_true rfl) ?_
  intro p e s m below meth c A ls hC hK hP hD hS hA hl
  refine absQ (fun Q0 hQ0 => ?_)
  have hl : lv_has ls 5 [(0, .ref h0), (1, .int 2), (2, .int 1), (3, .int xx)] := hl
  refine Kan8 hC (fun hx hb hr hml hB hown hlocks hnm => ?_)
  refine lv_iload_n hx hb gX12_bodyFrom_0.1 rfl (lv_at1 hl) ?_
  refine lv_istore (lv' := [(4, .int 2), (0, .ref h0), (1, .int 2), (2, .int 1), (3, .int xx)]) hx hb gX12_bodyFrom_0.2.1 hl (by decide) rfl (fun ls hl => ?_)
  refine lv_iload hx hb gX12_bodyFrom_0.2.2.1 (lv_at0 hl) ?_
  refine lv_iload_n hx hb gX12_bodyFrom_0.2.2.2.1 rfl (lv_at3 hl) ?_
  refine pS hC hK hl (m_hasOwn21 l G) si_X12_360 rfl rfl (Nat.le_of_ble_eq_true rfl) rm_24_1_2 ⟨by first | exact Nat.le_of_ble_eq_true rfl | exact Nat.zero_le _, by first | exact Nat.le_of_ble_eq_true rfl | exact Nat.zero_le _⟩ gX12_bodyFrom_0.2.2.2.2.1 (Keqr ?_)
  refine lv_if_ne (tgt := 22) hx hb gX12_bodyFrom_0.2.2.2.2.2.1 (by decide) (fun c9 => absurd (by decide) c9) (fun _ => ?_)
  refine lv_iload hx hb gX12_bodyFrom_0.2.2.2.2.2.2.1 (lv_at0 hl) ?_
  refine pS hC hK hl (m_above2 l G) si_X12_348 rfl rfl (Nat.le_of_ble_eq_true rfl) rm_24_1_1 ⟨by first | exact Nat.le_of_ble_eq_true rfl | exact Nat.zero_le _, by first | exact Nat.le_of_ble_eq_true rfl | exact Nat.zero_le _⟩ gX12_bodyFrom_0.2.2.2.2.2.2.2.1 (Keqr ?_)
  refine lv_istore (lv' := [(4, .int 0), (0, .ref h0), (1, .int 2), (2, .int 1), (3, .int xx)]) hx hb gX12_bodyFrom_0.2.2.2.2.2.2.2.2.1 hl (by decide) rfl (fun ls hl => ?_)
  refine lv_goto (tgt := 3) hx hb gX12_bodyFrom_0.2.2.2.2.2.2.2.2.2 (by decide) ?_
  refine lv_iload hx hb gX12_bodyFrom_0.2.2.1 (lv_at0 hl) ?_
  refine lv_iload_n hx hb gX12_bodyFrom_0.2.2.2.1 rfl (lv_at3 hl) ?_
  refine pS hC hK hl (m_hasOwn01 l G) si_X12_360 rfl rfl (Nat.le_of_ble_eq_true rfl) rm_24_1_2 ⟨by first | exact Nat.le_of_ble_eq_true rfl | exact Nat.zero_le _, by first | exact Nat.le_of_ble_eq_true rfl | exact Nat.zero_le _⟩ gX12_bodyFrom_0.2.2.2.2.1 (Keqr ?_)
  refine lv_if_ne (tgt := 22) hx hb gX12_bodyFrom_0.2.2.2.2.2.1 (by decide) (fun _ => ?_) (fun c9 => absurd c9 (by decide))
  refine lv_aload_n hx hb gX12_bodyFrom_1.1 rfl (lv_at1 hl) ?_
  refine lv_iload hx hb gX12_bodyFrom_1.2.1 (lv_at0 hl) ?_
  refine lv_iload_n hx hb gX12_bodyFrom_1.2.2.1 rfl (lv_at3 hl) ?_
  refine lv_iload_n hx hb gX12_bodyFrom_1.2.2.2.1 rfl (lv_at4 hl) ?_
  refine iV (wr := []) hC hK hl hP hD hS hA (m_body01 l G h0 xx nw nk mhasKept nt mtaped nr mrowMany mroundOf mroundFrom mouts nm mfromHour mtoHour ns mfrom mto msort misFault mdeep mcoded mlines nl nc nF np ntr nb mbestCost nso nsi nit nsh nsf nss nrc jr jd mnumber mwhose msize misParted fnrc (hjr) (hjd)) si_X12_363 [0, 1] [] sm_0_1 fm_0_1 nd_0_1 rfl rfl (by decide) rfl rfl rfl rfl rfl (Nat.le_of_ble_eq_true rfl) rm_24_15_6 ⟨Nat.le_of_ble_eq_true rfl, Nat.le_of_ble_eq_true rfl⟩ gX12_bodyFrom_1.2.2.2.2.1 (fun r6355 => Ktu3 fun jr16357 ip16358 gtrc6359 => ?_)
  intro H locs hr6355 hP hD hS
  try dsimp only at hr6355
  refine Kpdr (ws := [(h0, oX12 nw nk mhasKept nt mtaped nr mrowMany mroundOf mroundFrom mouts nm mfromHour mtoHour ns mfrom mto msort misFault mdeep mcoded mlines nl nc nF np ntr nb mbestCost nso nsi nit nsh nsf nss nrc (nI jr16357) (nI jd) mnumber mwhose msize ip16358), (nrc, iA G 30 gtrc6359)]) hP hD (fun hP hD => ?_)
  obtain ⟨hr6355, w6360⟩ := hr6355
  refine toQ hQ0 ?_
  exact RI (v := r6355) hC hP hD hS [0, 1] (jr16357, ip16358, gtrc6359) rfl rfl (by decide) (⟨trivial, by omega⟩) rfl gX12_bodyFrom_1.2.2.2.2.2
def K_m_from41 (l : Launch) (G : GG) (h0 : Nat) (xx : Int32) (nw : Nat) (nk : Nat) (mhasKept : Int32) (nt : Nat) (mtaped : Int32) (nr : Nat) (mrowMany : Int32) (mroundOf : Int32) (mroundFrom : Int32) (mouts : Int32) (nm : Nat) (mfromHour : Int32) (mtoHour : Int32) (ns : Nat) (mfrom : Int32) (mto : Int32) (msort : Int32) (misFault : Int32) (mdeep : Int32) (mcoded : Int32) (mlines : Int32) (nl : Nat) (nc : Nat) (nF : Nat) (np : Nat) (ntr : Nat) (nb : Nat) (mbestCost : Int32) (nso : Nat) (nsi : Nat) (nit : Nat) (nsh : Nat) (nsf : Nat) (nss : Nat) (nrc : Nat) (jr : Nat) (jd : Nat) (mnumber : Int32) (mwhose : Int32) (msize : Int32) (misParted : Int32) (fnrc : Nat → Int32) : Prop := MI l G yX12_bodyFrom cX12_bodyFrom 5 (some .int) 24 0 0 [.ref h0, .int 4, .int 1, .int xx] [(h0, oX12 nw nk mhasKept nt mtaped nr mrowMany mroundOf mroundFrom mouts nm mfromHour mtoHour ns mfrom mto msort misFault mdeep mcoded mlines nl nc nF np ntr nb mbestCost nso nsi nit nsh nsf nss nrc (nI jr) (nI jd) mnumber mwhose msize misParted), (nrc, iA G 30 fnrc)] (fun (r : Int32) (u : Nat × Int32 × (Nat → Int32)) => (True) ∧ (u.1 ≤ 30)) (fun u : Nat × Int32 × (Nat → Int32) => [(h0, oX12 nw nk mhasKept nt mtaped nr mrowMany mroundOf mroundFrom mouts nm mfromHour mtoHour ns mfrom mto msort misFault mdeep mcoded mlines nl nc nF np ntr nb mbestCost nso nsi nit nsh nsf nss nrc (nI u.1) (nI jd) mnumber mwhose msize u.2.1), (nrc, iA G 30 u.2.2)])
set_option maxHeartbeats 4000000 in
set_option maxRecDepth 100000 in
theorem m_from41 (l : Launch) (G : GG) (h0 : Nat) (xx : Int32) (nw : Nat) (nk : Nat) (mhasKept : Int32) (nt : Nat) (mtaped : Int32) (nr : Nat) (mrowMany : Int32) (mroundOf : Int32) (mroundFrom : Int32) (mouts : Int32) (nm : Nat) (mfromHour : Int32) (mtoHour : Int32) (ns : Nat) (mfrom : Int32) (mto : Int32) (msort : Int32) (misFault : Int32) (mdeep : Int32) (mcoded : Int32) (mlines : Int32) (nl : Nat) (nc : Nat) (nF : Nat) (np : Nat) (ntr : Nat) (nb : Nat) (mbestCost : Int32) (nso : Nat) (nsi : Nat) (nit : Nat) (nsh : Nat) (nsf : Nat) (nss : Nat) (nrc : Nat) (jr : Nat) (jd : Nat) (mnumber : Int32) (mwhose : Int32) (msize : Int32) (misParted : Int32) (fnrc : Nat → Int32) (hjr : jr ≤ 30) (hjd : jd < 7) : K_m_from41 l G h0 xx nw nk mhasKept nt mtaped nr mrowMany mroundOf mroundFrom mouts nm mfromHour mtoHour ns mfrom mto msort misFault mdeep mcoded mlines nl nc nF np ntr nb mbestCost nso nsi nit nsh nsf nss nrc jr jd mnumber mwhose msize misParted fnrc := by
  refine MI.start (by decide +kernel) (Nat.le_of_ble_eq_true rfl) ?_
  intro p e s m below meth c A ls hC hK hP hD hS hA hl
  refine absQ (fun Q0 hQ0 => ?_)
  have hl : lv_has ls 5 [(0, .ref h0), (1, .int 4), (2, .int 1), (3, .int xx)] := hl
  refine Kan8 hC (fun hx hb hr hml hB hown hlocks hnm => ?_)
  refine lv_iload_n hx hb gX12_bodyFrom_0.1 rfl (lv_at1 hl) ?_
  refine lv_istore (lv' := [(4, .int 4), (0, .ref h0), (1, .int 4), (2, .int 1), (3, .int xx)]) hx hb gX12_bodyFrom_0.2.1 hl (by decide) rfl (fun ls hl => ?_)
  refine lv_iload hx hb gX12_bodyFrom_0.2.2.1 (lv_at0 hl) ?_
  refine lv_iload_n hx hb gX12_bodyFrom_0.2.2.2.1 rfl (lv_at3 hl) ?_
  refine pS hC hK hl (m_hasOwn41 l G) si_X12_360 rfl rfl (Nat.le_of_ble_eq_true rfl) rm_24_1_2 ⟨by first | exact Nat.le_of_ble_eq_true rfl | exact Nat.zero_le _, by first | exact Nat.le_of_ble_eq_true rfl | exact Nat.zero_le _⟩ gX12_bodyFrom_0.2.2.2.2.1 (Keqr ?_)
  refine lv_if_ne (tgt := 22) hx hb gX12_bodyFrom_0.2.2.2.2.2.1 (by decide) (fun c9 => absurd (by decide) c9) (fun _ => ?_)
  refine lv_iload hx hb gX12_bodyFrom_0.2.2.2.2.2.2.1 (lv_at0 hl) ?_
  refine pS hC hK hl (m_above4 l G) si_X12_348 rfl rfl (Nat.le_of_ble_eq_true rfl) rm_24_1_1 ⟨by first | exact Nat.le_of_ble_eq_true rfl | exact Nat.zero_le _, by first | exact Nat.le_of_ble_eq_true rfl | exact Nat.zero_le _⟩ gX12_bodyFrom_0.2.2.2.2.2.2.2.1 (Keqr ?_)
  refine lv_istore (lv' := [(4, .int 0), (0, .ref h0), (1, .int 4), (2, .int 1), (3, .int xx)]) hx hb gX12_bodyFrom_0.2.2.2.2.2.2.2.2.1 hl (by decide) rfl (fun ls hl => ?_)
  refine lv_goto (tgt := 3) hx hb gX12_bodyFrom_0.2.2.2.2.2.2.2.2.2 (by decide) ?_
  refine lv_iload hx hb gX12_bodyFrom_0.2.2.1 (lv_at0 hl) ?_
  refine lv_iload_n hx hb gX12_bodyFrom_0.2.2.2.1 rfl (lv_at3 hl) ?_
  refine pS hC hK hl (m_hasOwn01 l G) si_X12_360 rfl rfl (Nat.le_of_ble_eq_true rfl) rm_24_1_2 ⟨by first | exact Nat.le_of_ble_eq_true rfl | exact Nat.zero_le _, by first | exact Nat.le_of_ble_eq_true rfl | exact Nat.zero_le _⟩ gX12_bodyFrom_0.2.2.2.2.1 (Keqr ?_)
  refine lv_if_ne (tgt := 22) hx hb gX12_bodyFrom_0.2.2.2.2.2.1 (by decide) (fun _ => ?_) (fun c9 => absurd c9 (by decide))
  refine lv_aload_n hx hb gX12_bodyFrom_1.1 rfl (lv_at1 hl) ?_
  refine lv_iload hx hb gX12_bodyFrom_1.2.1 (lv_at0 hl) ?_
  refine lv_iload_n hx hb gX12_bodyFrom_1.2.2.1 rfl (lv_at3 hl) ?_
  refine lv_iload_n hx hb gX12_bodyFrom_1.2.2.2.1 rfl (lv_at4 hl) ?_
  refine iV (wr := []) hC hK hl hP hD hS hA (m_body01 l G h0 xx nw nk mhasKept nt mtaped nr mrowMany mroundOf mroundFrom mouts nm mfromHour mtoHour ns mfrom mto msort misFault mdeep mcoded mlines nl nc nF np ntr nb mbestCost nso nsi nit nsh nsf nss nrc jr jd mnumber mwhose msize misParted fnrc (hjr) (hjd)) si_X12_363 [0, 1] [] sm_0_1 fm_0_1 nd_0_1 rfl rfl (by decide) rfl rfl rfl rfl rfl (Nat.le_of_ble_eq_true rfl) rm_24_15_6 ⟨Nat.le_of_ble_eq_true rfl, Nat.le_of_ble_eq_true rfl⟩ gX12_bodyFrom_1.2.2.2.2.1 (fun r6367 => Ktu3 fun jr16369 ip16370 gtrc6371 => ?_)
  intro H locs hr6367 hP hD hS
  try dsimp only at hr6367
  refine Kpdr (ws := [(h0, oX12 nw nk mhasKept nt mtaped nr mrowMany mroundOf mroundFrom mouts nm mfromHour mtoHour ns mfrom mto msort misFault mdeep mcoded mlines nl nc nF np ntr nb mbestCost nso nsi nit nsh nsf nss nrc (nI jr16369) (nI jd) mnumber mwhose msize ip16370), (nrc, iA G 30 gtrc6371)]) hP hD (fun hP hD => ?_)
  obtain ⟨hr6367, w6372⟩ := hr6367
  refine toQ hQ0 ?_
  exact RI (v := r6367) hC hP hD hS [0, 1] (jr16369, ip16370, gtrc6371) rfl rfl (by decide) (⟨trivial, by omega⟩) rfl gX12_bodyFrom_1.2.2.2.2.2
def K_m_from51 (l : Launch) (G : GG) (h0 : Nat) (xx : Int32) (nw : Nat) (nk : Nat) (mhasKept : Int32) (nt : Nat) (mtaped : Int32) (nr : Nat) (mrowMany : Int32) (mroundOf : Int32) (mroundFrom : Int32) (mouts : Int32) (nm : Nat) (mfromHour : Int32) (mtoHour : Int32) (ns : Nat) (mfrom : Int32) (mto : Int32) (msort : Int32) (misFault : Int32) (mdeep : Int32) (mcoded : Int32) (mlines : Int32) (nl : Nat) (nc : Nat) (nF : Nat) (np : Nat) (ntr : Nat) (nb : Nat) (mbestCost : Int32) (nso : Nat) (nsi : Nat) (nit : Nat) (nsh : Nat) (nsf : Nat) (nss : Nat) (nrc : Nat) (jr : Nat) (jd : Nat) (mnumber : Int32) (mwhose : Int32) (msize : Int32) (misParted : Int32) (fnrc : Nat → Int32) : Prop := MI l G yX12_bodyFrom cX12_bodyFrom 5 (some .int) 24 0 0 [.ref h0, .int 5, .int 1, .int xx] [(h0, oX12 nw nk mhasKept nt mtaped nr mrowMany mroundOf mroundFrom mouts nm mfromHour mtoHour ns mfrom mto msort misFault mdeep mcoded mlines nl nc nF np ntr nb mbestCost nso nsi nit nsh nsf nss nrc (nI jr) (nI jd) mnumber mwhose msize misParted), (nrc, iA G 30 fnrc)] (fun (r : Int32) (u : Nat × Int32 × (Nat → Int32)) => (True) ∧ (u.1 ≤ 30)) (fun u : Nat × Int32 × (Nat → Int32) => [(h0, oX12 nw nk mhasKept nt mtaped nr mrowMany mroundOf mroundFrom mouts nm mfromHour mtoHour ns mfrom mto msort misFault mdeep mcoded mlines nl nc nF np ntr nb mbestCost nso nsi nit nsh nsf nss nrc (nI u.1) (nI jd) mnumber mwhose msize u.2.1), (nrc, iA G 30 u.2.2)])
set_option maxHeartbeats 4000000 in
set_option maxRecDepth 100000 in
theorem m_from51 (l : Launch) (G : GG) (h0 : Nat) (xx : Int32) (nw : Nat) (nk : Nat) (mhasKept : Int32) (nt : Nat) (mtaped : Int32) (nr : Nat) (mrowMany : Int32) (mroundOf : Int32) (mroundFrom : Int32) (mouts : Int32) (nm : Nat) (mfromHour : Int32) (mtoHour : Int32) (ns : Nat) (mfrom : Int32) (mto : Int32) (msort : Int32) (misFault : Int32) (mdeep : Int32) (mcoded : Int32) (mlines : Int32) (nl : Nat) (nc : Nat) (nF : Nat) (np : Nat) (ntr : Nat) (nb : Nat) (mbestCost : Int32) (nso : Nat) (nsi : Nat) (nit : Nat) (nsh : Nat) (nsf : Nat) (nss : Nat) (nrc : Nat) (jr : Nat) (jd : Nat) (mnumber : Int32) (mwhose : Int32) (msize : Int32) (misParted : Int32) (fnrc : Nat → Int32) (hjr : jr ≤ 30) (hjd : jd < 7) : K_m_from51 l G h0 xx nw nk mhasKept nt mtaped nr mrowMany mroundOf mroundFrom mouts nm mfromHour mtoHour ns mfrom mto msort misFault mdeep mcoded mlines nl nc nF np ntr nb mbestCost nso nsi nit nsh nsf nss nrc jr jd mnumber mwhose msize misParted fnrc := by
  refine MI.start (by decide +kernel) (Nat.le_of_ble_eq_true rfl) ?_
  intro p e s m below meth c A ls hC hK hP hD hS hA hl
  refine absQ (fun Q0 hQ0 => ?_)
  have hl : lv_has ls 5 [(0, .ref h0), (1, .int 5), (2, .int 1), (3, .int xx)] := hl
  refine Kan8 hC (fun hx hb hr hml hB hown hlocks hnm => ?_)
  refine lv_iload_n hx hb gX12_bodyFrom_0.1 rfl (lv_at1 hl) ?_
  refine lv_istore (lv' := [(4, .int 5), (0, .ref h0), (1, .int 5), (2, .int 1), (3, .int xx)]) hx hb gX12_bodyFrom_0.2.1 hl (by decide) rfl (fun ls hl => ?_)
  refine lv_iload hx hb gX12_bodyFrom_0.2.2.1 (lv_at0 hl) ?_
  refine lv_iload_n hx hb gX12_bodyFrom_0.2.2.2.1 rfl (lv_at3 hl) ?_
  refine pS hC hK hl (m_hasOwn51 l G) si_X12_360 rfl rfl (Nat.le_of_ble_eq_true rfl) rm_24_1_2 ⟨by first | exact Nat.le_of_ble_eq_true rfl | exact Nat.zero_le _, by first | exact Nat.le_of_ble_eq_true rfl | exact Nat.zero_le _⟩ gX12_bodyFrom_0.2.2.2.2.1 (Keqr ?_)
  refine lv_if_ne (tgt := 22) hx hb gX12_bodyFrom_0.2.2.2.2.2.1 (by decide) (fun c9 => absurd (by decide) c9) (fun _ => ?_)
  refine lv_iload hx hb gX12_bodyFrom_0.2.2.2.2.2.2.1 (lv_at0 hl) ?_
  refine pS hC hK hl (m_above5 l G) si_X12_348 rfl rfl (Nat.le_of_ble_eq_true rfl) rm_24_1_1 ⟨by first | exact Nat.le_of_ble_eq_true rfl | exact Nat.zero_le _, by first | exact Nat.le_of_ble_eq_true rfl | exact Nat.zero_le _⟩ gX12_bodyFrom_0.2.2.2.2.2.2.2.1 (Keqr ?_)
  refine lv_istore (lv' := [(4, .int 4), (0, .ref h0), (1, .int 5), (2, .int 1), (3, .int xx)]) hx hb gX12_bodyFrom_0.2.2.2.2.2.2.2.2.1 hl (by decide) rfl (fun ls hl => ?_)
  refine lv_goto (tgt := 3) hx hb gX12_bodyFrom_0.2.2.2.2.2.2.2.2.2 (by decide) ?_
  refine lv_iload hx hb gX12_bodyFrom_0.2.2.1 (lv_at0 hl) ?_
  refine lv_iload_n hx hb gX12_bodyFrom_0.2.2.2.1 rfl (lv_at3 hl) ?_
  refine pS hC hK hl (m_hasOwn41 l G) si_X12_360 rfl rfl (Nat.le_of_ble_eq_true rfl) rm_24_1_2 ⟨by first | exact Nat.le_of_ble_eq_true rfl | exact Nat.zero_le _, by first | exact Nat.le_of_ble_eq_true rfl | exact Nat.zero_le _⟩ gX12_bodyFrom_0.2.2.2.2.1 (Keqr ?_)
  refine lv_if_ne (tgt := 22) hx hb gX12_bodyFrom_0.2.2.2.2.2.1 (by decide) (fun c9 => absurd (by decide) c9) (fun _ => ?_)
  refine lv_iload hx hb gX12_bodyFrom_0.2.2.2.2.2.2.1 (lv_at0 hl) ?_
  refine pS hC hK hl (m_above4 l G) si_X12_348 rfl rfl (Nat.le_of_ble_eq_true rfl) rm_24_1_1 ⟨by first | exact Nat.le_of_ble_eq_true rfl | exact Nat.zero_le _, by first | exact Nat.le_of_ble_eq_true rfl | exact Nat.zero_le _⟩ gX12_bodyFrom_0.2.2.2.2.2.2.2.1 (Keqr ?_)
  refine lv_istore (lv' := [(4, .int 0), (0, .ref h0), (1, .int 5), (2, .int 1), (3, .int xx)]) hx hb gX12_bodyFrom_0.2.2.2.2.2.2.2.2.1 hl (by decide) rfl (fun ls hl => ?_)
  refine lv_goto (tgt := 3) hx hb gX12_bodyFrom_0.2.2.2.2.2.2.2.2.2 (by decide) ?_
  refine lv_iload hx hb gX12_bodyFrom_0.2.2.1 (lv_at0 hl) ?_
  refine lv_iload_n hx hb gX12_bodyFrom_0.2.2.2.1 rfl (lv_at3 hl) ?_
  refine pS hC hK hl (m_hasOwn01 l G) si_X12_360 rfl rfl (Nat.le_of_ble_eq_true rfl) rm_24_1_2 ⟨by first | exact Nat.le_of_ble_eq_true rfl | exact Nat.zero_le _, by first | exact Nat.le_of_ble_eq_true rfl | exact Nat.zero_le _⟩ gX12_bodyFrom_0.2.2.2.2.1 (Keqr ?_)
  refine lv_if_ne (tgt := 22) hx hb gX12_bodyFrom_0.2.2.2.2.2.1 (by decide) (fun _ => ?_) (fun c9 => absurd c9 (by decide))
  refine lv_aload_n hx hb gX12_bodyFrom_1.1 rfl (lv_at1 hl) ?_
  refine lv_iload hx hb gX12_bodyFrom_1.2.1 (lv_at0 hl) ?_
  refine lv_iload_n hx hb gX12_bodyFrom_1.2.2.1 rfl (lv_at3 hl) ?_
  refine lv_iload_n hx hb gX12_bodyFrom_1.2.2.2.1 rfl (lv_at4 hl) ?_
  refine iV (wr := []) hC hK hl hP hD hS hA (m_body01 l G h0 xx nw nk mhasKept nt mtaped nr mrowMany mroundOf mroundFrom mouts nm mfromHour mtoHour ns mfrom mto msort misFault mdeep mcoded mlines nl nc nF np ntr nb mbestCost nso nsi nit nsh nsf nss nrc jr jd mnumber mwhose msize misParted fnrc (hjr) (hjd)) si_X12_363 [0, 1] [] sm_0_1 fm_0_1 nd_0_1 rfl rfl (by decide) rfl rfl rfl rfl rfl (Nat.le_of_ble_eq_true rfl) rm_24_15_6 ⟨Nat.le_of_ble_eq_true rfl, Nat.le_of_ble_eq_true rfl⟩ gX12_bodyFrom_1.2.2.2.2.1 (fun r6383 => Ktu3 fun jr16385 ip16386 gtrc6387 => ?_)
  intro H locs hr6383 hP hD hS
  try dsimp only at hr6383
  refine Kpdr (ws := [(h0, oX12 nw nk mhasKept nt mtaped nr mrowMany mroundOf mroundFrom mouts nm mfromHour mtoHour ns mfrom mto msort misFault mdeep mcoded mlines nl nc nF np ntr nb mbestCost nso nsi nit nsh nsf nss nrc (nI jr16385) (nI jd) mnumber mwhose msize ip16386), (nrc, iA G 30 gtrc6387)]) hP hD (fun hP hD => ?_)
  obtain ⟨hr6383, w6388⟩ := hr6383
  refine toQ hQ0 ?_
  exact RI (v := r6383) hC hP hD hS [0, 1] (jr16385, ip16386, gtrc6387) rfl rfl (by decide) (⟨trivial, by omega⟩) rfl gX12_bodyFrom_1.2.2.2.2.2
def K_m_from61 (l : Launch) (G : GG) (h0 : Nat) (xx : Int32) (nw : Nat) (nk : Nat) (mhasKept : Int32) (nt : Nat) (mtaped : Int32) (nr : Nat) (mrowMany : Int32) (mroundOf : Int32) (mroundFrom : Int32) (mouts : Int32) (nm : Nat) (mfromHour : Int32) (mtoHour : Int32) (ns : Nat) (mfrom : Int32) (mto : Int32) (msort : Int32) (misFault : Int32) (mdeep : Int32) (mcoded : Int32) (mlines : Int32) (nl : Nat) (nc : Nat) (nF : Nat) (np : Nat) (ntr : Nat) (nb : Nat) (mbestCost : Int32) (nso : Nat) (nsi : Nat) (nit : Nat) (nsh : Nat) (nsf : Nat) (nss : Nat) (nrc : Nat) (jr : Nat) (jd : Nat) (mnumber : Int32) (mwhose : Int32) (msize : Int32) (misParted : Int32) (fnrc : Nat → Int32) : Prop := MI l G yX12_bodyFrom cX12_bodyFrom 5 (some .int) 24 0 0 [.ref h0, .int 6, .int 1, .int xx] [(h0, oX12 nw nk mhasKept nt mtaped nr mrowMany mroundOf mroundFrom mouts nm mfromHour mtoHour ns mfrom mto msort misFault mdeep mcoded mlines nl nc nF np ntr nb mbestCost nso nsi nit nsh nsf nss nrc (nI jr) (nI jd) mnumber mwhose msize misParted), (nrc, iA G 30 fnrc)] (fun (r : Int32) (u : Nat × Int32 × (Nat → Int32)) => (True) ∧ (u.1 ≤ 30)) (fun u : Nat × Int32 × (Nat → Int32) => [(h0, oX12 nw nk mhasKept nt mtaped nr mrowMany mroundOf mroundFrom mouts nm mfromHour mtoHour ns mfrom mto msort misFault mdeep mcoded mlines nl nc nF np ntr nb mbestCost nso nsi nit nsh nsf nss nrc (nI u.1) (nI jd) mnumber mwhose msize u.2.1), (nrc, iA G 30 u.2.2)])
set_option maxHeartbeats 4000000 in
set_option maxRecDepth 100000 in
theorem m_from61 (l : Launch) (G : GG) (h0 : Nat) (xx : Int32) (nw : Nat) (nk : Nat) (mhasKept : Int32) (nt : Nat) (mtaped : Int32) (nr : Nat) (mrowMany : Int32) (mroundOf : Int32) (mroundFrom : Int32) (mouts : Int32) (nm : Nat) (mfromHour : Int32) (mtoHour : Int32) (ns : Nat) (mfrom : Int32) (mto : Int32) (msort : Int32) (misFault : Int32) (mdeep : Int32) (mcoded : Int32) (mlines : Int32) (nl : Nat) (nc : Nat) (nF : Nat) (np : Nat) (ntr : Nat) (nb : Nat) (mbestCost : Int32) (nso : Nat) (nsi : Nat) (nit : Nat) (nsh : Nat) (nsf : Nat) (nss : Nat) (nrc : Nat) (jr : Nat) (jd : Nat) (mnumber : Int32) (mwhose : Int32) (msize : Int32) (misParted : Int32) (fnrc : Nat → Int32) (hjr : jr ≤ 30) (hjd : jd < 7) : K_m_from61 l G h0 xx nw nk mhasKept nt mtaped nr mrowMany mroundOf mroundFrom mouts nm mfromHour mtoHour ns mfrom mto msort misFault mdeep mcoded mlines nl nc nF np ntr nb mbestCost nso nsi nit nsh nsf nss nrc jr jd mnumber mwhose msize misParted fnrc := by
  refine MI.start (by decide +kernel) (Nat.le_of_ble_eq_true rfl) ?_
  intro p e s m below meth c A ls hC hK hP hD hS hA hl
  refine absQ (fun Q0 hQ0 => ?_)
  have hl : lv_has ls 5 [(0, .ref h0), (1, .int 6), (2, .int 1), (3, .int xx)] := hl
  refine Kan8 hC (fun hx hb hr hml hB hown hlocks hnm => ?_)
  refine lv_iload_n hx hb gX12_bodyFrom_0.1 rfl (lv_at1 hl) ?_
  refine lv_istore (lv' := [(4, .int 6), (0, .ref h0), (1, .int 6), (2, .int 1), (3, .int xx)]) hx hb gX12_bodyFrom_0.2.1 hl (by decide) rfl (fun ls hl => ?_)
  refine lv_iload hx hb gX12_bodyFrom_0.2.2.1 (lv_at0 hl) ?_
  refine lv_iload_n hx hb gX12_bodyFrom_0.2.2.2.1 rfl (lv_at3 hl) ?_
  refine pS hC hK hl (m_hasOwn61 l G) si_X12_360 rfl rfl (Nat.le_of_ble_eq_true rfl) rm_24_1_2 ⟨by first | exact Nat.le_of_ble_eq_true rfl | exact Nat.zero_le _, by first | exact Nat.le_of_ble_eq_true rfl | exact Nat.zero_le _⟩ gX12_bodyFrom_0.2.2.2.2.1 (Keqr ?_)
  refine lv_if_ne (tgt := 22) hx hb gX12_bodyFrom_0.2.2.2.2.2.1 (by decide) (fun c9 => absurd (by decide) c9) (fun _ => ?_)
  refine lv_iload hx hb gX12_bodyFrom_0.2.2.2.2.2.2.1 (lv_at0 hl) ?_
  refine pS hC hK hl (m_above6 l G) si_X12_348 rfl rfl (Nat.le_of_ble_eq_true rfl) rm_24_1_1 ⟨by first | exact Nat.le_of_ble_eq_true rfl | exact Nat.zero_le _, by first | exact Nat.le_of_ble_eq_true rfl | exact Nat.zero_le _⟩ gX12_bodyFrom_0.2.2.2.2.2.2.2.1 (Keqr ?_)
  refine lv_istore (lv' := [(4, .int 0), (0, .ref h0), (1, .int 6), (2, .int 1), (3, .int xx)]) hx hb gX12_bodyFrom_0.2.2.2.2.2.2.2.2.1 hl (by decide) rfl (fun ls hl => ?_)
  refine lv_goto (tgt := 3) hx hb gX12_bodyFrom_0.2.2.2.2.2.2.2.2.2 (by decide) ?_
  refine lv_iload hx hb gX12_bodyFrom_0.2.2.1 (lv_at0 hl) ?_
  refine lv_iload_n hx hb gX12_bodyFrom_0.2.2.2.1 rfl (lv_at3 hl) ?_
  refine pS hC hK hl (m_hasOwn01 l G) si_X12_360 rfl rfl (Nat.le_of_ble_eq_true rfl) rm_24_1_2 ⟨by first | exact Nat.le_of_ble_eq_true rfl | exact Nat.zero_le _, by first | exact Nat.le_of_ble_eq_true rfl | exact Nat.zero_le _⟩ gX12_bodyFrom_0.2.2.2.2.1 (Keqr ?_)
  refine lv_if_ne (tgt := 22) hx hb gX12_bodyFrom_0.2.2.2.2.2.1 (by decide) (fun _ => ?_) (fun c9 => absurd c9 (by decide))
  refine lv_aload_n hx hb gX12_bodyFrom_1.1 rfl (lv_at1 hl) ?_
  refine lv_iload hx hb gX12_bodyFrom_1.2.1 (lv_at0 hl) ?_
  refine lv_iload_n hx hb gX12_bodyFrom_1.2.2.1 rfl (lv_at3 hl) ?_
  refine lv_iload_n hx hb gX12_bodyFrom_1.2.2.2.1 rfl (lv_at4 hl) ?_
  refine iV (wr := []) hC hK hl hP hD hS hA (m_body01 l G h0 xx nw nk mhasKept nt mtaped nr mrowMany mroundOf mroundFrom mouts nm mfromHour mtoHour ns mfrom mto msort misFault mdeep mcoded mlines nl nc nF np ntr nb mbestCost nso nsi nit nsh nsf nss nrc jr jd mnumber mwhose msize misParted fnrc (hjr) (hjd)) si_X12_363 [0, 1] [] sm_0_1 fm_0_1 nd_0_1 rfl rfl (by decide) rfl rfl rfl rfl rfl (Nat.le_of_ble_eq_true rfl) rm_24_15_6 ⟨Nat.le_of_ble_eq_true rfl, Nat.le_of_ble_eq_true rfl⟩ gX12_bodyFrom_1.2.2.2.2.1 (fun r6395 => Ktu3 fun jr16397 ip16398 gtrc6399 => ?_)
  intro H locs hr6395 hP hD hS
  try dsimp only at hr6395
  refine Kpdr (ws := [(h0, oX12 nw nk mhasKept nt mtaped nr mrowMany mroundOf mroundFrom mouts nm mfromHour mtoHour ns mfrom mto msort misFault mdeep mcoded mlines nl nc nF np ntr nb mbestCost nso nsi nit nsh nsf nss nrc (nI jr16397) (nI jd) mnumber mwhose msize ip16398), (nrc, iA G 30 gtrc6399)]) hP hD (fun hP hD => ?_)
  obtain ⟨hr6395, w6400⟩ := hr6395
  refine toQ hQ0 ?_
  exact RI (v := r6395) hC hP hD hS [0, 1] (jr16397, ip16398, gtrc6399) rfl rfl (by decide) (⟨trivial, by omega⟩) rfl gX12_bodyFrom_1.2.2.2.2.2
def K_m_dealt1 (l : Launch) (G : GG) (h0 : Nat) (xx : Int32) (nw : Nat) (nk : Nat) (mhasKept : Int32) (nt : Nat) (mtaped : Int32) (nr : Nat) (mrowMany : Int32) (mroundOf : Int32) (mroundFrom : Int32) (mouts : Int32) (nm : Nat) (mfromHour : Int32) (mtoHour : Int32) (ns : Nat) (mfrom : Int32) (mto : Int32) (msort : Int32) (misFault : Int32) (mdeep : Int32) (mcoded : Int32) (mlines : Int32) (nl : Nat) (nc : Nat) (nF : Nat) (np : Nat) (ntr : Nat) (nb : Nat) (mbestCost : Int32) (nso : Nat) (nsi : Nat) (nit : Nat) (nsh : Nat) (nsf : Nat) (nss : Nat) (nrc : Nat) (jr : Nat) (jd : Nat) (mnumber : Int32) (mwhose : Int32) (msize : Int32) (misParted : Int32) (fnrc : Nat → Int32) : Prop := MI l G yX12_dealt cX12_dealt 3 (some .int) 26 0 0 [.ref h0, .int 1, .int xx] [(h0, oX12 nw nk mhasKept nt mtaped nr mrowMany mroundOf mroundFrom mouts nm mfromHour mtoHour ns mfrom mto msort misFault mdeep mcoded mlines nl nc nF np ntr nb mbestCost nso nsi nit nsh nsf nss nrc (nI jr) (nI jd) mnumber mwhose msize misParted), (nrc, iA G 30 fnrc)] (fun (r : Int32) (u : Nat × Int32 × (Nat → Int32)) => (True) ∧ (u.1 ≤ 30)) (fun u : Nat × Int32 × (Nat → Int32) => [(h0, oX12 nw nk mhasKept nt mtaped nr mrowMany mroundOf mroundFrom mouts nm mfromHour mtoHour ns mfrom mto msort misFault mdeep mcoded mlines nl nc nF np ntr nb mbestCost nso nsi nit nsh nsf nss nrc (nI u.1) (nI jd) mnumber mwhose msize u.2.1), (nrc, iA G 30 u.2.2)])
set_option maxHeartbeats 4000000 in
set_option maxRecDepth 100000 in
theorem m_dealt1 (l : Launch) (G : GG) (h0 : Nat) (xx : Int32) (nw : Nat) (nk : Nat) (mhasKept : Int32) (nt : Nat) (mtaped : Int32) (nr : Nat) (mrowMany : Int32) (mroundOf : Int32) (mroundFrom : Int32) (mouts : Int32) (nm : Nat) (mfromHour : Int32) (mtoHour : Int32) (ns : Nat) (mfrom : Int32) (mto : Int32) (msort : Int32) (misFault : Int32) (mdeep : Int32) (mcoded : Int32) (mlines : Int32) (nl : Nat) (nc : Nat) (nF : Nat) (np : Nat) (ntr : Nat) (nb : Nat) (mbestCost : Int32) (nso : Nat) (nsi : Nat) (nit : Nat) (nsh : Nat) (nsf : Nat) (nss : Nat) (nrc : Nat) (jr : Nat) (jd : Nat) (mnumber : Int32) (mwhose : Int32) (msize : Int32) (misParted : Int32) (fnrc : Nat → Int32) (hjr : jr ≤ 30) (hjd : jd < 7) : K_m_dealt1 l G h0 xx nw nk mhasKept nt mtaped nr mrowMany mroundOf mroundFrom mouts nm mfromHour mtoHour ns mfrom mto msort misFault mdeep mcoded mlines nl nc nF np ntr nb mbestCost nso nsi nit nsh nsf nss nrc jr jd mnumber mwhose msize misParted fnrc := by
  refine MI.start (by decide +kernel) (Nat.le_of_ble_eq_true rfl) ?_
  intro p e s m below meth c A ls hC hK hP hD hS hA hl
  refine absQ (fun Q0 hQ0 => ?_)
  have hl : lv_has ls 3 [(0, .ref h0), (1, .int 1), (2, .int xx)] := hl
  refine Kan8 hC (fun hx hb hr hml hB hown hlocks hnm => ?_)
  refine lv_aload_n hx hb gX12_dealt_0.1 rfl (lv_at0 hl) ?_
  refine lv_aload_n hx hb gX12_dealt_0.2.1 rfl (lv_at0 hl) ?_
  refine gf_X12_354 hC rfl hK hP 0 rfl rfl gX12_dealt_0.2.2.1 ?_
  refine lv_iload_n hx hb gX12_dealt_0.2.2.2.1 rfl (lv_at1 hl) ?_
  refine lv_iload_n hx hb gX12_dealt_0.2.2.2.2.1 rfl (lv_at2 hl) ?_
  rcases (show jd = 0 ∨ jd = 1 ∨ jd = 2 ∨ jd = 3 ∨ jd = 4 ∨ jd = 5 ∨ jd = 6 by omega) with rfl | rfl | rfl | rfl | rfl | rfl | rfl
  · refine iV (wr := []) hC hK hl hP hD hS hA (m_from01 l G h0 xx nw nk mhasKept nt mtaped nr mrowMany mroundOf mroundFrom mouts nm mfromHour mtoHour ns mfrom mto msort misFault mdeep mcoded mlines nl nc nF np ntr nb mbestCost nso nsi nit nsh nsf nss nrc jr 0 mnumber mwhose msize misParted fnrc (hjr) (hjd)) si_X12_357 [0, 1] [] sm_0_1 fm_0_1 nd_0_1 rfl rfl (by decide) rfl rfl rfl rfl rfl (Nat.le_of_ble_eq_true rfl) rm_26_16_5 ⟨Nat.le_of_ble_eq_true rfl, Nat.le_of_ble_eq_true rfl⟩ gX12_dealt_0.2.2.2.2.2.1 (fun r6401 => Ktu3 fun jr16403 ip16404 gtrc6405 => ?_)
    intro H locs hr6401 hP hD hS
    try dsimp only at hr6401
    refine Kpdr (ws := [(h0, oX12 nw nk mhasKept nt mtaped nr mrowMany mroundOf mroundFrom mouts nm mfromHour mtoHour ns mfrom mto msort misFault mdeep mcoded mlines nl nc nF np ntr nb mbestCost nso nsi nit nsh nsf nss nrc (nI jr16403) 0 mnumber mwhose msize ip16404), (nrc, iA G 30 gtrc6405)]) hP hD (fun hP hD => ?_)
    obtain ⟨hr6401, w6406⟩ := hr6401
    refine toQ hQ0 ?_
    exact RI (v := r6401) hC hP hD hS [0, 1] (jr16403, ip16404, gtrc6405) rfl rfl (by decide) (⟨trivial, by omega⟩) rfl gX12_dealt_0.2.2.2.2.2.2
  · refine iV (wr := []) hC hK hl hP hD hS hA (m_from11 l G h0 xx nw nk mhasKept nt mtaped nr mrowMany mroundOf mroundFrom mouts nm mfromHour mtoHour ns mfrom mto msort misFault mdeep mcoded mlines nl nc nF np ntr nb mbestCost nso nsi nit nsh nsf nss nrc jr 1 mnumber mwhose msize misParted fnrc (hjr) (hjd)) si_X12_357 [0, 1] [] sm_0_1 fm_0_1 nd_0_1 rfl rfl (by decide) rfl rfl rfl rfl rfl (Nat.le_of_ble_eq_true rfl) rm_26_18_5 ⟨Nat.le_of_ble_eq_true rfl, Nat.le_of_ble_eq_true rfl⟩ gX12_dealt_0.2.2.2.2.2.1 (fun r6407 => Ktu3 fun jr16409 ip16410 gtrc6411 => ?_)
    intro H locs hr6407 hP hD hS
    try dsimp only at hr6407
    refine Kpdr (ws := [(h0, oX12 nw nk mhasKept nt mtaped nr mrowMany mroundOf mroundFrom mouts nm mfromHour mtoHour ns mfrom mto msort misFault mdeep mcoded mlines nl nc nF np ntr nb mbestCost nso nsi nit nsh nsf nss nrc (nI jr16409) 1 mnumber mwhose msize ip16410), (nrc, iA G 30 gtrc6411)]) hP hD (fun hP hD => ?_)
    obtain ⟨hr6407, w6412⟩ := hr6407
    refine toQ hQ0 ?_
    exact RI (v := r6407) hC hP hD hS [0, 1] (jr16409, ip16410, gtrc6411) rfl rfl (by decide) (⟨trivial, by omega⟩) rfl gX12_dealt_0.2.2.2.2.2.2
  · refine iV (wr := []) hC hK hl hP hD hS hA (m_from21 l G h0 xx nw nk mhasKept nt mtaped nr mrowMany mroundOf mroundFrom mouts nm mfromHour mtoHour ns mfrom mto msort misFault mdeep mcoded mlines nl nc nF np ntr nb mbestCost nso nsi nit nsh nsf nss nrc jr 2 mnumber mwhose msize misParted fnrc (hjr) (hjd)) si_X12_357 [0, 1] [] sm_0_1 fm_0_1 nd_0_1 rfl rfl (by decide) rfl rfl rfl rfl rfl (Nat.le_of_ble_eq_true rfl) rm_26_24_5 ⟨Nat.le_of_ble_eq_true rfl, Nat.le_of_ble_eq_true rfl⟩ gX12_dealt_0.2.2.2.2.2.1 (fun r6413 => Ktu3 fun jr16415 ip16416 gtrc6417 => ?_)
    intro H locs hr6413 hP hD hS
    try dsimp only at hr6413
    refine Kpdr (ws := [(h0, oX12 nw nk mhasKept nt mtaped nr mrowMany mroundOf mroundFrom mouts nm mfromHour mtoHour ns mfrom mto msort misFault mdeep mcoded mlines nl nc nF np ntr nb mbestCost nso nsi nit nsh nsf nss nrc (nI jr16415) 2 mnumber mwhose msize ip16416), (nrc, iA G 30 gtrc6417)]) hP hD (fun hP hD => ?_)
    obtain ⟨hr6413, w6418⟩ := hr6413
    refine toQ hQ0 ?_
    exact RI (v := r6413) hC hP hD hS [0, 1] (jr16415, ip16416, gtrc6417) rfl rfl (by decide) (⟨trivial, by omega⟩) rfl gX12_dealt_0.2.2.2.2.2.2
  · refine iV (wr := []) hC hK hl hP hD hS hA (m_from31 l G h0 xx nw nk mhasKept nt mtaped nr mrowMany mroundOf mroundFrom mouts nm mfromHour mtoHour ns mfrom mto msort misFault mdeep mcoded mlines nl nc nF np ntr nb mbestCost nso nsi nit nsh nsf nss nrc jr 3 mnumber mwhose msize misParted fnrc (hjr) (hjd)) si_X12_357 [0, 1] [] sm_0_1 fm_0_1 nd_0_1 rfl rfl (by decide) rfl rfl rfl rfl rfl (Nat.le_of_ble_eq_true rfl) rm_26_20_5 ⟨Nat.le_of_ble_eq_true rfl, Nat.le_of_ble_eq_true rfl⟩ gX12_dealt_0.2.2.2.2.2.1 (fun r6419 => Ktu3 fun jr16421 ip16422 gtrc6423 => ?_)
    intro H locs hr6419 hP hD hS
    try dsimp only at hr6419
    refine Kpdr (ws := [(h0, oX12 nw nk mhasKept nt mtaped nr mrowMany mroundOf mroundFrom mouts nm mfromHour mtoHour ns mfrom mto msort misFault mdeep mcoded mlines nl nc nF np ntr nb mbestCost nso nsi nit nsh nsf nss nrc (nI jr16421) 3 mnumber mwhose msize ip16422), (nrc, iA G 30 gtrc6423)]) hP hD (fun hP hD => ?_)
    obtain ⟨hr6419, w6424⟩ := hr6419
    refine toQ hQ0 ?_
    exact RI (v := r6419) hC hP hD hS [0, 1] (jr16421, ip16422, gtrc6423) rfl rfl (by decide) (⟨trivial, by omega⟩) rfl gX12_dealt_0.2.2.2.2.2.2
  · refine iV (wr := []) hC hK hl hP hD hS hA (m_from41 l G h0 xx nw nk mhasKept nt mtaped nr mrowMany mroundOf mroundFrom mouts nm mfromHour mtoHour ns mfrom mto msort misFault mdeep mcoded mlines nl nc nF np ntr nb mbestCost nso nsi nit nsh nsf nss nrc jr 4 mnumber mwhose msize misParted fnrc (hjr) (hjd)) si_X12_357 [0, 1] [] sm_0_1 fm_0_1 nd_0_1 rfl rfl (by decide) rfl rfl rfl rfl rfl (Nat.le_of_ble_eq_true rfl) rm_26_24_5 ⟨Nat.le_of_ble_eq_true rfl, Nat.le_of_ble_eq_true rfl⟩ gX12_dealt_0.2.2.2.2.2.1 (fun r6425 => Ktu3 fun jr16427 ip16428 gtrc6429 => ?_)
    intro H locs hr6425 hP hD hS
    try dsimp only at hr6425
    refine Kpdr (ws := [(h0, oX12 nw nk mhasKept nt mtaped nr mrowMany mroundOf mroundFrom mouts nm mfromHour mtoHour ns mfrom mto msort misFault mdeep mcoded mlines nl nc nF np ntr nb mbestCost nso nsi nit nsh nsf nss nrc (nI jr16427) 4 mnumber mwhose msize ip16428), (nrc, iA G 30 gtrc6429)]) hP hD (fun hP hD => ?_)
    obtain ⟨hr6425, w6430⟩ := hr6425
    refine toQ hQ0 ?_
    exact RI (v := r6425) hC hP hD hS [0, 1] (jr16427, ip16428, gtrc6429) rfl rfl (by decide) (⟨trivial, by omega⟩) rfl gX12_dealt_0.2.2.2.2.2.2
  · refine iV (wr := []) hC hK hl hP hD hS hA (m_from51 l G h0 xx nw nk mhasKept nt mtaped nr mrowMany mroundOf mroundFrom mouts nm mfromHour mtoHour ns mfrom mto msort misFault mdeep mcoded mlines nl nc nF np ntr nb mbestCost nso nsi nit nsh nsf nss nrc jr 5 mnumber mwhose msize misParted fnrc (hjr) (hjd)) si_X12_357 [0, 1] [] sm_0_1 fm_0_1 nd_0_1 rfl rfl (by decide) rfl rfl rfl rfl rfl (Nat.le_of_ble_eq_true rfl) rm_26_24_5 ⟨Nat.le_of_ble_eq_true rfl, Nat.le_of_ble_eq_true rfl⟩ gX12_dealt_0.2.2.2.2.2.1 (fun r6431 => Ktu3 fun jr16433 ip16434 gtrc6435 => ?_)
    intro H locs hr6431 hP hD hS
    try dsimp only at hr6431
    refine Kpdr (ws := [(h0, oX12 nw nk mhasKept nt mtaped nr mrowMany mroundOf mroundFrom mouts nm mfromHour mtoHour ns mfrom mto msort misFault mdeep mcoded mlines nl nc nF np ntr nb mbestCost nso nsi nit nsh nsf nss nrc (nI jr16433) 5 mnumber mwhose msize ip16434), (nrc, iA G 30 gtrc6435)]) hP hD (fun hP hD => ?_)
    obtain ⟨hr6431, w6436⟩ := hr6431
    refine toQ hQ0 ?_
    exact RI (v := r6431) hC hP hD hS [0, 1] (jr16433, ip16434, gtrc6435) rfl rfl (by decide) (⟨trivial, by omega⟩) rfl gX12_dealt_0.2.2.2.2.2.2
  · refine iV (wr := []) hC hK hl hP hD hS hA (m_from61 l G h0 xx nw nk mhasKept nt mtaped nr mrowMany mroundOf mroundFrom mouts nm mfromHour mtoHour ns mfrom mto msort misFault mdeep mcoded mlines nl nc nF np ntr nb mbestCost nso nsi nit nsh nsf nss nrc jr 6 mnumber mwhose msize misParted fnrc (hjr) (hjd)) si_X12_357 [0, 1] [] sm_0_1 fm_0_1 nd_0_1 rfl rfl (by decide) rfl rfl rfl rfl rfl (Nat.le_of_ble_eq_true rfl) rm_26_24_5 ⟨Nat.le_of_ble_eq_true rfl, Nat.le_of_ble_eq_true rfl⟩ gX12_dealt_0.2.2.2.2.2.1 (fun r6437 => Ktu3 fun jr16439 ip16440 gtrc6441 => ?_)
    intro H locs hr6437 hP hD hS
    try dsimp only at hr6437
    refine Kpdr (ws := [(h0, oX12 nw nk mhasKept nt mtaped nr mrowMany mroundOf mroundFrom mouts nm mfromHour mtoHour ns mfrom mto msort misFault mdeep mcoded mlines nl nc nF np ntr nb mbestCost nso nsi nit nsh nsf nss nrc (nI jr16439) 6 mnumber mwhose msize ip16440), (nrc, iA G 30 gtrc6441)]) hP hD (fun hP hD => ?_)
    obtain ⟨hr6437, w6442⟩ := hr6437
    refine toQ hQ0 ?_
    exact RI (v := r6437) hC hP hD hS [0, 1] (jr16439, ip16440, gtrc6441) rfl rfl (by decide) (⟨trivial, by omega⟩) rfl gX12_dealt_0.2.2.2.2.2.2
def K_m_body02 (l : Launch) (G : GG) (h0 : Nat) (xx : Int32) (nw : Nat) (nk : Nat) (mhasKept : Int32) (nt : Nat) (mtaped : Int32) (nr : Nat) (mrowMany : Int32) (mroundOf : Int32) (mroundFrom : Int32) (mouts : Int32) (nm : Nat) (mfromHour : Int32) (mtoHour : Int32) (ns : Nat) (mfrom : Int32) (mto : Int32) (msort : Int32) (misFault : Int32) (mdeep : Int32) (mcoded : Int32) (mlines : Int32) (nl : Nat) (nc : Nat) (nF : Nat) (np : Nat) (ntr : Nat) (nb : Nat) (mbestCost : Int32) (nso : Nat) (nsi : Nat) (nit : Nat) (nsh : Nat) (nsf : Nat) (nss : Nat) (nrc : Nat) (jr : Nat) (jd : Nat) (mnumber : Int32) (mwhose : Int32) (msize : Int32) (misParted : Int32) (fnrc : Nat → Int32) : Prop := MI l G yX12_body cX12_body 6 (some .int) 27 0 0 [.ref h0, .int 0, .int 2, .int xx] [(h0, oX12 nw nk mhasKept nt mtaped nr mrowMany mroundOf mroundFrom mouts nm mfromHour mtoHour ns mfrom mto msort misFault mdeep mcoded mlines nl nc nF np ntr nb mbestCost nso nsi nit nsh nsf nss nrc (nI jr) (nI jd) mnumber mwhose msize misParted), (nrc, iA G 30 fnrc)] (fun (r : Int32) (u : Nat × Int32 × (Nat → Int32)) => (True) ∧ (u.1 ≤ 30)) (fun u : Nat × Int32 × (Nat → Int32) => [(h0, oX12 nw nk mhasKept nt mtaped nr mrowMany mroundOf mroundFrom mouts nm mfromHour mtoHour ns mfrom mto msort misFault mdeep mcoded mlines nl nc nF np ntr nb mbestCost nso nsi nit nsh nsf nss nrc (nI u.1) (nI jd) mnumber mwhose msize u.2.1), (nrc, iA G 30 u.2.2)])
set_option maxHeartbeats 4000000 in
set_option maxRecDepth 100000 in
theorem m_body02 (l : Launch) (G : GG) (h0 : Nat) (xx : Int32) (nw : Nat) (nk : Nat) (mhasKept : Int32) (nt : Nat) (mtaped : Int32) (nr : Nat) (mrowMany : Int32) (mroundOf : Int32) (mroundFrom : Int32) (mouts : Int32) (nm : Nat) (mfromHour : Int32) (mtoHour : Int32) (ns : Nat) (mfrom : Int32) (mto : Int32) (msort : Int32) (misFault : Int32) (mdeep : Int32) (mcoded : Int32) (mlines : Int32) (nl : Nat) (nc : Nat) (nF : Nat) (np : Nat) (ntr : Nat) (nb : Nat) (mbestCost : Int32) (nso : Nat) (nsi : Nat) (nit : Nat) (nsh : Nat) (nsf : Nat) (nss : Nat) (nrc : Nat) (jr : Nat) (jd : Nat) (mnumber : Int32) (mwhose : Int32) (msize : Int32) (misParted : Int32) (fnrc : Nat → Int32) (hjr : jr ≤ 30) (hjd : jd < 7) : K_m_body02 l G h0 xx nw nk mhasKept nt mtaped nr mrowMany mroundOf mroundFrom mouts nm mfromHour mtoHour ns mfrom mto msort misFault mdeep mcoded mlines nl nc nF np ntr nb mbestCost nso nsi nit nsh nsf nss nrc jr jd mnumber mwhose msize misParted fnrc := by
  refine MI.start (by decide +kernel) (Nat.le_of_ble_eq_true rfl) ?_
  intro p e s m below meth c A ls hC hK hP hD hS hA hl
  refine absQ (fun Q0 hQ0 => ?_)
  have hl : lv_has ls 6 [(0, .ref h0), (1, .int 0), (2, .int 2), (3, .int xx)] := hl
  refine Kan8 hC (fun hx hb hr hml hB hown hlocks hnm => ?_)
  refine lv_iconst (v := 4) hx hb gX12_body_0.1 (by decide) ?_
  refine lv_iload_n hx hb gX12_body_0.2.1 rfl (lv_at1 hl) ?_
  refine lv_imul hx hb gX12_body_0.2.2.1 ?_
  refine eqi (x1 := 0) (by decide) ?_
  refine lv_iload_n hx hb gX12_body_0.2.2.2.1 rfl (lv_at2 hl) ?_
  refine lv_iadd hx hb gX12_body_0.2.2.2.2.1 ?_
  refine eqi (x1 := 2) (by decide) ?_
  refine lv_tableIn (tgt := 140) hx hb gX12_body_0.2.2.2.2.2.1 (by decide) (by decide) rfl (by decide) ?_
  refine lv_aload_n hx hb gX12_body_2.2.2.2.2.1 rfl (lv_at0 hl) ?_
  refine lv_bipush (v := 12) hx hb gX12_body_2.2.2.2.2.2.1 (by decide) ?_
  refine vV (wr := []) hC hK hl hP hD hS hA (m_began l G h0 12 nw nk mhasKept nt mtaped nr mrowMany mroundOf mroundFrom mouts nm mfromHour mtoHour ns mfrom mto msort misFault mdeep mcoded mlines nl nc nF np ntr nb mbestCost nso nsi nit nsh nsf nss nrc jr (nI jd) mnumber mwhose msize misParted fnrc (hjr)) si_X12_366 [0, 1] [] sm_0_1 fm_0_1 nd_0_1 rfl rfl (by decide) rfl rfl rfl rfl rfl (Nat.le_of_ble_eq_true rfl) rm_27_1_2 ⟨Nat.le_of_ble_eq_true rfl, Nat.le_of_ble_eq_true rfl⟩ gX12_body_2.2.2.2.2.2.2.1 (Ktu2 fun jr16445 gtrc6446 => ?_)
  intro H locs hr6443 hP hD hS
  try dsimp only at hr6443
  refine Kpdr (ws := [(h0, oX12 nw nk mhasKept nt mtaped nr mrowMany mroundOf mroundFrom mouts nm mfromHour mtoHour ns mfrom mto msort misFault mdeep mcoded mlines nl nc nF np ntr nb mbestCost nso nsi nit nsh nsf nss nrc (nI jr16445) (nI jd) mnumber mwhose msize misParted), (nrc, iA G 30 gtrc6446)]) hP hD (fun hP hD => ?_)
  have w6447 := hr6443
  refine lv_aload_n hx hb gX12_body_2.2.2.2.2.2.2.2.1 rfl (lv_at0 hl) ?_
  refine lv_iconst (v := 1) hx hb gX12_body_2.2.2.2.2.2.2.2.2.1 (by decide) ?_
  refine lv_iload_n hx hb gX12_body_2.2.2.2.2.2.2.2.2.2 rfl (lv_at3 hl) ?_
  refine iV (wr := []) hC hK hl hP hD hS hA (m_dealt1 l G h0 xx nw nk mhasKept nt mtaped nr mrowMany mroundOf mroundFrom mouts nm mfromHour mtoHour ns mfrom mto msort misFault mdeep mcoded mlines nl nc nF np ntr nb mbestCost nso nsi nit nsh nsf nss nrc jr16445 jd mnumber mwhose msize misParted gtrc6446 (w6447) (hjd)) si_X12_372 [0, 1] [] sm_0_1 fm_0_1 nd_0_1 rfl rfl (by decide) rfl rfl rfl rfl rfl (Nat.le_of_ble_eq_true rfl) rm_27_26_3 ⟨Nat.le_of_ble_eq_true rfl, Nat.le_of_ble_eq_true rfl⟩ gX12_body_3.1 (fun r6448 => Ktu3 fun jr16450 ip16451 gtrc6452 => ?_)
  intro H locs hr6448 hP hD hS
  try dsimp only at hr6448
  refine Kpdr (ws := [(h0, oX12 nw nk mhasKept nt mtaped nr mrowMany mroundOf mroundFrom mouts nm mfromHour mtoHour ns mfrom mto msort misFault mdeep mcoded mlines nl nc nF np ntr nb mbestCost nso nsi nit nsh nsf nss nrc (nI jr16450) (nI jd) mnumber mwhose msize ip16451), (nrc, iA G 30 gtrc6452)]) hP hD (fun hP hD => ?_)
  obtain ⟨hr6448, w6453⟩ := hr6448
  refine lv_aload_n hx hb gX12_body_3.2.1 rfl (lv_at0 hl) ?_
  refine gf_X12_375 hC rfl hK hP 0 rfl rfl gX12_body_3.2.2.1 ?_
  refine lv_isub hx hb gX12_body_3.2.2.2.1 ?_
  refine toQ hQ0 ?_
  exact RI (v := r6448 - mwhose) hC hP hD hS [0, 1] (jr16450, ip16451, gtrc6452) rfl rfl (by decide) (⟨trivial, by omega⟩) rfl gX12_body_3.2.2.2.2.1
def K_m_from02 (l : Launch) (G : GG) (h0 : Nat) (xx : Int32) (nw : Nat) (nk : Nat) (mhasKept : Int32) (nt : Nat) (mtaped : Int32) (nr : Nat) (mrowMany : Int32) (mroundOf : Int32) (mroundFrom : Int32) (mouts : Int32) (nm : Nat) (mfromHour : Int32) (mtoHour : Int32) (ns : Nat) (mfrom : Int32) (mto : Int32) (msort : Int32) (misFault : Int32) (mdeep : Int32) (mcoded : Int32) (mlines : Int32) (nl : Nat) (nc : Nat) (nF : Nat) (np : Nat) (ntr : Nat) (nb : Nat) (mbestCost : Int32) (nso : Nat) (nsi : Nat) (nit : Nat) (nsh : Nat) (nsf : Nat) (nss : Nat) (nrc : Nat) (jr : Nat) (jd : Nat) (mnumber : Int32) (mwhose : Int32) (msize : Int32) (misParted : Int32) (fnrc : Nat → Int32) : Prop := MI l G yX12_bodyFrom cX12_bodyFrom 5 (some .int) 28 0 0 [.ref h0, .int 0, .int 2, .int xx] [(h0, oX12 nw nk mhasKept nt mtaped nr mrowMany mroundOf mroundFrom mouts nm mfromHour mtoHour ns mfrom mto msort misFault mdeep mcoded mlines nl nc nF np ntr nb mbestCost nso nsi nit nsh nsf nss nrc (nI jr) (nI jd) mnumber mwhose msize misParted), (nrc, iA G 30 fnrc)] (fun (r : Int32) (u : Nat × Int32 × (Nat → Int32)) => (True) ∧ (u.1 ≤ 30)) (fun u : Nat × Int32 × (Nat → Int32) => [(h0, oX12 nw nk mhasKept nt mtaped nr mrowMany mroundOf mroundFrom mouts nm mfromHour mtoHour ns mfrom mto msort misFault mdeep mcoded mlines nl nc nF np ntr nb mbestCost nso nsi nit nsh nsf nss nrc (nI u.1) (nI jd) mnumber mwhose msize u.2.1), (nrc, iA G 30 u.2.2)])
set_option maxHeartbeats 4000000 in
set_option maxRecDepth 100000 in
theorem m_from02 (l : Launch) (G : GG) (h0 : Nat) (xx : Int32) (nw : Nat) (nk : Nat) (mhasKept : Int32) (nt : Nat) (mtaped : Int32) (nr : Nat) (mrowMany : Int32) (mroundOf : Int32) (mroundFrom : Int32) (mouts : Int32) (nm : Nat) (mfromHour : Int32) (mtoHour : Int32) (ns : Nat) (mfrom : Int32) (mto : Int32) (msort : Int32) (misFault : Int32) (mdeep : Int32) (mcoded : Int32) (mlines : Int32) (nl : Nat) (nc : Nat) (nF : Nat) (np : Nat) (ntr : Nat) (nb : Nat) (mbestCost : Int32) (nso : Nat) (nsi : Nat) (nit : Nat) (nsh : Nat) (nsf : Nat) (nss : Nat) (nrc : Nat) (jr : Nat) (jd : Nat) (mnumber : Int32) (mwhose : Int32) (msize : Int32) (misParted : Int32) (fnrc : Nat → Int32) (hjr : jr ≤ 30) (hjd : jd < 7) : K_m_from02 l G h0 xx nw nk mhasKept nt mtaped nr mrowMany mroundOf mroundFrom mouts nm mfromHour mtoHour ns mfrom mto msort misFault mdeep mcoded mlines nl nc nF np ntr nb mbestCost nso nsi nit nsh nsf nss nrc jr jd mnumber mwhose msize misParted fnrc := by
  refine MI.start (by decide +kernel) (Nat.le_of_ble_eq_true rfl) ?_
  intro p e s m below meth c A ls hC hK hP hD hS hA hl
  refine absQ (fun Q0 hQ0 => ?_)
  have hl : lv_has ls 5 [(0, .ref h0), (1, .int 0), (2, .int 2), (3, .int xx)] := hl
  refine Kan8 hC (fun hx hb hr hml hB hown hlocks hnm => ?_)
  refine lv_iload_n hx hb gX12_bodyFrom_0.1 rfl (lv_at1 hl) ?_
  refine lv_istore (lv' := [(4, .int 0), (0, .ref h0), (1, .int 0), (2, .int 2), (3, .int xx)]) hx hb gX12_bodyFrom_0.2.1 hl (by decide) rfl (fun ls hl => ?_)
  refine lv_iload hx hb gX12_bodyFrom_0.2.2.1 (lv_at0 hl) ?_
  refine lv_iload_n hx hb gX12_bodyFrom_0.2.2.2.1 rfl (lv_at3 hl) ?_
  refine pS hC hK hl (m_hasOwn02 l G) si_X12_360 rfl rfl (Nat.le_of_ble_eq_true rfl) rm_28_1_2 ⟨by first | exact Nat.le_of_ble_eq_true rfl | exact Nat.zero_le _, by first | exact Nat.le_of_ble_eq_true rfl | exact Nat.zero_le _⟩ gX12_bodyFrom_0.2.2.2.2.1 (Keqr ?_)
  refine lv_if_ne (tgt := 22) hx hb gX12_bodyFrom_0.2.2.2.2.2.1 (by decide) (fun _ => ?_) (fun c9 => absurd c9 (by decide))
  refine lv_aload_n hx hb gX12_bodyFrom_1.1 rfl (lv_at1 hl) ?_
  refine lv_iload hx hb gX12_bodyFrom_1.2.1 (lv_at0 hl) ?_
  refine lv_iload_n hx hb gX12_bodyFrom_1.2.2.1 rfl (lv_at3 hl) ?_
  refine lv_iload_n hx hb gX12_bodyFrom_1.2.2.2.1 rfl (lv_at4 hl) ?_
  refine iV (wr := []) hC hK hl hP hD hS hA (m_body02 l G h0 xx nw nk mhasKept nt mtaped nr mrowMany mroundOf mroundFrom mouts nm mfromHour mtoHour ns mfrom mto msort misFault mdeep mcoded mlines nl nc nF np ntr nb mbestCost nso nsi nit nsh nsf nss nrc jr jd mnumber mwhose msize misParted fnrc (hjr) (hjd)) si_X12_363 [0, 1] [] sm_0_1 fm_0_1 nd_0_1 rfl rfl (by decide) rfl rfl rfl rfl rfl (Nat.le_of_ble_eq_true rfl) rm_28_27_6 ⟨Nat.le_of_ble_eq_true rfl, Nat.le_of_ble_eq_true rfl⟩ gX12_bodyFrom_1.2.2.2.2.1 (fun r6456 => Ktu3 fun jr16458 ip16459 gtrc6460 => ?_)
  intro H locs hr6456 hP hD hS
  try dsimp only at hr6456
  refine Kpdr (ws := [(h0, oX12 nw nk mhasKept nt mtaped nr mrowMany mroundOf mroundFrom mouts nm mfromHour mtoHour ns mfrom mto msort misFault mdeep mcoded mlines nl nc nF np ntr nb mbestCost nso nsi nit nsh nsf nss nrc (nI jr16458) (nI jd) mnumber mwhose msize ip16459), (nrc, iA G 30 gtrc6460)]) hP hD (fun hP hD => ?_)
  obtain ⟨hr6456, w6461⟩ := hr6456
  refine toQ hQ0 ?_
  exact RI (v := r6456) hC hP hD hS [0, 1] (jr16458, ip16459, gtrc6460) rfl rfl (by decide) (⟨trivial, by omega⟩) rfl gX12_bodyFrom_1.2.2.2.2.2
def K_m_body22 (l : Launch) (G : GG) (h0 : Nat) (xx : Int32) (nw : Nat) (nk : Nat) (mhasKept : Int32) (nt : Nat) (mtaped : Int32) (nr : Nat) (mrowMany : Int32) (mroundOf : Int32) (mroundFrom : Int32) (mouts : Int32) (nm : Nat) (mfromHour : Int32) (mtoHour : Int32) (ns : Nat) (mfrom : Int32) (mto : Int32) (msort : Int32) (misFault : Int32) (mdeep : Int32) (mcoded : Int32) (mlines : Int32) (nl : Nat) (nc : Nat) (nF : Nat) (np : Nat) (ntr : Nat) (nb : Nat) (mbestCost : Int32) (nso : Nat) (nsi : Nat) (nit : Nat) (nsh : Nat) (nsf : Nat) (nss : Nat) (nrc : Nat) (jr : Nat) (jd : Nat) (mnumber : Int32) (mwhose : Int32) (msize : Int32) (misParted : Int32) (fnrc : Nat → Int32) : Prop := MI l G yX12_body cX12_body 6 (some .int) 29 0 0 [.ref h0, .int 2, .int 2, .int xx] [(h0, oX12 nw nk mhasKept nt mtaped nr mrowMany mroundOf mroundFrom mouts nm mfromHour mtoHour ns mfrom mto msort misFault mdeep mcoded mlines nl nc nF np ntr nb mbestCost nso nsi nit nsh nsf nss nrc (nI jr) (nI jd) mnumber mwhose msize misParted), (nrc, iA G 30 fnrc)] (fun (r : Int32) (u : Nat × Int32 × (Nat → Int32)) => (True) ∧ (u.1 ≤ 30)) (fun u : Nat × Int32 × (Nat → Int32) => [(h0, oX12 nw nk mhasKept nt mtaped nr mrowMany mroundOf mroundFrom mouts nm mfromHour mtoHour ns mfrom mto msort misFault mdeep mcoded mlines nl nc nF np ntr nb mbestCost nso nsi nit nsh nsf nss nrc (nI u.1) (nI jd) mnumber mwhose msize u.2.1), (nrc, iA G 30 u.2.2)])
set_option maxHeartbeats 4000000 in
set_option maxRecDepth 100000 in
theorem m_body22 (l : Launch) (G : GG) (h0 : Nat) (xx : Int32) (nw : Nat) (nk : Nat) (mhasKept : Int32) (nt : Nat) (mtaped : Int32) (nr : Nat) (mrowMany : Int32) (mroundOf : Int32) (mroundFrom : Int32) (mouts : Int32) (nm : Nat) (mfromHour : Int32) (mtoHour : Int32) (ns : Nat) (mfrom : Int32) (mto : Int32) (msort : Int32) (misFault : Int32) (mdeep : Int32) (mcoded : Int32) (mlines : Int32) (nl : Nat) (nc : Nat) (nF : Nat) (np : Nat) (ntr : Nat) (nb : Nat) (mbestCost : Int32) (nso : Nat) (nsi : Nat) (nit : Nat) (nsh : Nat) (nsf : Nat) (nss : Nat) (nrc : Nat) (jr : Nat) (jd : Nat) (mnumber : Int32) (mwhose : Int32) (msize : Int32) (misParted : Int32) (fnrc : Nat → Int32) (hjr : jr ≤ 30) (hjd : jd < 7) : K_m_body22 l G h0 xx nw nk mhasKept nt mtaped nr mrowMany mroundOf mroundFrom mouts nm mfromHour mtoHour ns mfrom mto msort misFault mdeep mcoded mlines nl nc nF np ntr nb mbestCost nso nsi nit nsh nsf nss nrc jr jd mnumber mwhose msize misParted fnrc := by
  refine MI.start (by decide +kernel) (Nat.le_of_ble_eq_true rfl) ?_
  intro p e s m below meth c A ls hC hK hP hD hS hA hl
  refine absQ (fun Q0 hQ0 => ?_)
  have hl : lv_has ls 6 [(0, .ref h0), (1, .int 2), (2, .int 2), (3, .int xx)] := hl
  refine Kan8 hC (fun hx hb hr hml hB hown hlocks hnm => ?_)
  refine lv_iconst (v := 4) hx hb gX12_body_0.1 (by decide) ?_
  refine lv_iload_n hx hb gX12_body_0.2.1 rfl (lv_at1 hl) ?_
  refine lv_imul hx hb gX12_body_0.2.2.1 ?_
  refine eqi (x1 := 8) (by decide) ?_
  refine lv_iload_n hx hb gX12_body_0.2.2.2.1 rfl (lv_at2 hl) ?_
  refine lv_iadd hx hb gX12_body_0.2.2.2.2.1 ?_
  refine eqi (x1 := 10) (by decide) ?_
  refine lv_tableIn (tgt := 226) hx hb gX12_body_0.2.2.2.2.2.1 (by decide) (by decide) rfl (by decide) ?_
  refine lv_aload_n hx hb gX12_body_7.2.2.2.1 rfl (lv_at0 hl) ?_
  refine lv_bipush (v := 30) hx hb gX12_body_7.2.2.2.2.1 (by decide) ?_
  refine vV (wr := []) hC hK hl hP hD hS hA (m_began l G h0 30 nw nk mhasKept nt mtaped nr mrowMany mroundOf mroundFrom mouts nm mfromHour mtoHour ns mfrom mto msort misFault mdeep mcoded mlines nl nc nF np ntr nb mbestCost nso nsi nit nsh nsf nss nrc jr (nI jd) mnumber mwhose msize misParted fnrc (hjr)) si_X12_366 [0, 1] [] sm_0_1 fm_0_1 nd_0_1 rfl rfl (by decide) rfl rfl rfl rfl rfl (Nat.le_of_ble_eq_true rfl) rm_29_1_2 ⟨Nat.le_of_ble_eq_true rfl, Nat.le_of_ble_eq_true rfl⟩ gX12_body_7.2.2.2.2.2.1 (Ktu2 fun jr16464 gtrc6465 => ?_)
  intro H locs hr6462 hP hD hS
  try dsimp only at hr6462
  refine Kpdr (ws := [(h0, oX12 nw nk mhasKept nt mtaped nr mrowMany mroundOf mroundFrom mouts nm mfromHour mtoHour ns mfrom mto msort misFault mdeep mcoded mlines nl nc nF np ntr nb mbestCost nso nsi nit nsh nsf nss nrc (nI jr16464) (nI jd) mnumber mwhose msize misParted), (nrc, iA G 30 gtrc6465)]) hP hD (fun hP hD => ?_)
  have w6466 := hr6462
  refine lv_aload_n hx hb gX12_body_7.2.2.2.2.2.2.1 rfl (lv_at0 hl) ?_
  refine lv_iconst (v := 0) hx hb gX12_body_7.2.2.2.2.2.2.2.1 (by decide) ?_
  refine lv_iconst (v := 2) hx hb gX12_body_7.2.2.2.2.2.2.2.2.1 (by decide) ?_
  refine lv_iload_n hx hb gX12_body_7.2.2.2.2.2.2.2.2.2 rfl (lv_at3 hl) ?_
  refine iV (wr := []) hC hK hl hP hD hS hA (m_from02 l G h0 xx nw nk mhasKept nt mtaped nr mrowMany mroundOf mroundFrom mouts nm mfromHour mtoHour ns mfrom mto msort misFault mdeep mcoded mlines nl nc nF np ntr nb mbestCost nso nsi nit nsh nsf nss nrc jr16464 jd mnumber mwhose msize misParted gtrc6465 (w6466) (hjd)) si_X12_357 [0, 1] [] sm_0_1 fm_0_1 nd_0_1 rfl rfl (by decide) rfl rfl rfl rfl rfl (Nat.le_of_ble_eq_true rfl) rm_29_28_5 ⟨Nat.le_of_ble_eq_true rfl, Nat.le_of_ble_eq_true rfl⟩ gX12_body_8.1 (fun r6467 => Ktu3 fun jr16469 ip16470 gtrc6471 => ?_)
  intro H locs hr6467 hP hD hS
  try dsimp only at hr6467
  refine Kpdr (ws := [(h0, oX12 nw nk mhasKept nt mtaped nr mrowMany mroundOf mroundFrom mouts nm mfromHour mtoHour ns mfrom mto msort misFault mdeep mcoded mlines nl nc nF np ntr nb mbestCost nso nsi nit nsh nsf nss nrc (nI jr16469) (nI jd) mnumber mwhose msize ip16470), (nrc, iA G 30 gtrc6471)]) hP hD (fun hP hD => ?_)
  obtain ⟨hr6467, w6472⟩ := hr6467
  refine lv_iconst (v := 3) hx hb gX12_body_8.2.1 (by decide) ?_
  refine lv_imul hx hb gX12_body_8.2.2.1 ?_
  refine toQ hQ0 ?_
  exact RI (v := r6467 * 3) hC hP hD hS [0, 1] (jr16469, ip16470, gtrc6471) rfl rfl (by decide) (⟨trivial, by omega⟩) rfl gX12_body_8.2.2.2.1
def K_m_from22 (l : Launch) (G : GG) (h0 : Nat) (xx : Int32) (nw : Nat) (nk : Nat) (mhasKept : Int32) (nt : Nat) (mtaped : Int32) (nr : Nat) (mrowMany : Int32) (mroundOf : Int32) (mroundFrom : Int32) (mouts : Int32) (nm : Nat) (mfromHour : Int32) (mtoHour : Int32) (ns : Nat) (mfrom : Int32) (mto : Int32) (msort : Int32) (misFault : Int32) (mdeep : Int32) (mcoded : Int32) (mlines : Int32) (nl : Nat) (nc : Nat) (nF : Nat) (np : Nat) (ntr : Nat) (nb : Nat) (mbestCost : Int32) (nso : Nat) (nsi : Nat) (nit : Nat) (nsh : Nat) (nsf : Nat) (nss : Nat) (nrc : Nat) (jr : Nat) (jd : Nat) (mnumber : Int32) (mwhose : Int32) (msize : Int32) (misParted : Int32) (fnrc : Nat → Int32) : Prop := MI l G yX12_bodyFrom cX12_bodyFrom 5 (some .int) 30 0 0 [.ref h0, .int 2, .int 2, .int xx] [(h0, oX12 nw nk mhasKept nt mtaped nr mrowMany mroundOf mroundFrom mouts nm mfromHour mtoHour ns mfrom mto msort misFault mdeep mcoded mlines nl nc nF np ntr nb mbestCost nso nsi nit nsh nsf nss nrc (nI jr) (nI jd) mnumber mwhose msize misParted), (nrc, iA G 30 fnrc)] (fun (r : Int32) (u : Nat × Int32 × (Nat → Int32)) => (True) ∧ (u.1 ≤ 30)) (fun u : Nat × Int32 × (Nat → Int32) => [(h0, oX12 nw nk mhasKept nt mtaped nr mrowMany mroundOf mroundFrom mouts nm mfromHour mtoHour ns mfrom mto msort misFault mdeep mcoded mlines nl nc nF np ntr nb mbestCost nso nsi nit nsh nsf nss nrc (nI u.1) (nI jd) mnumber mwhose msize u.2.1), (nrc, iA G 30 u.2.2)])
set_option maxHeartbeats 4000000 in
set_option maxRecDepth 100000 in
theorem m_from22 (l : Launch) (G : GG) (h0 : Nat) (xx : Int32) (nw : Nat) (nk : Nat) (mhasKept : Int32) (nt : Nat) (mtaped : Int32) (nr : Nat) (mrowMany : Int32) (mroundOf : Int32) (mroundFrom : Int32) (mouts : Int32) (nm : Nat) (mfromHour : Int32) (mtoHour : Int32) (ns : Nat) (mfrom : Int32) (mto : Int32) (msort : Int32) (misFault : Int32) (mdeep : Int32) (mcoded : Int32) (mlines : Int32) (nl : Nat) (nc : Nat) (nF : Nat) (np : Nat) (ntr : Nat) (nb : Nat) (mbestCost : Int32) (nso : Nat) (nsi : Nat) (nit : Nat) (nsh : Nat) (nsf : Nat) (nss : Nat) (nrc : Nat) (jr : Nat) (jd : Nat) (mnumber : Int32) (mwhose : Int32) (msize : Int32) (misParted : Int32) (fnrc : Nat → Int32) (hjr : jr ≤ 30) (hjd : jd < 7) : K_m_from22 l G h0 xx nw nk mhasKept nt mtaped nr mrowMany mroundOf mroundFrom mouts nm mfromHour mtoHour ns mfrom mto msort misFault mdeep mcoded mlines nl nc nF np ntr nb mbestCost nso nsi nit nsh nsf nss nrc jr jd mnumber mwhose msize misParted fnrc := by
  refine MI.start (by decide +kernel) (Nat.le_of_ble_eq_true rfl) ?_
  intro p e s m below meth c A ls hC hK hP hD hS hA hl
  refine absQ (fun Q0 hQ0 => ?_)
  have hl : lv_has ls 5 [(0, .ref h0), (1, .int 2), (2, .int 2), (3, .int xx)] := hl
  refine Kan8 hC (fun hx hb hr hml hB hown hlocks hnm => ?_)
  refine lv_iload_n hx hb gX12_bodyFrom_0.1 rfl (lv_at1 hl) ?_
  refine lv_istore (lv' := [(4, .int 2), (0, .ref h0), (1, .int 2), (2, .int 2), (3, .int xx)]) hx hb gX12_bodyFrom_0.2.1 hl (by decide) rfl (fun ls hl => ?_)
  refine lv_iload hx hb gX12_bodyFrom_0.2.2.1 (lv_at0 hl) ?_
  refine lv_iload_n hx hb gX12_bodyFrom_0.2.2.2.1 rfl (lv_at3 hl) ?_
  refine pS hC hK hl (m_hasOwn22 l G) si_X12_360 rfl rfl (Nat.le_of_ble_eq_true rfl) rm_30_1_2 ⟨by first | exact Nat.le_of_ble_eq_true rfl | exact Nat.zero_le _, by first | exact Nat.le_of_ble_eq_true rfl | exact Nat.zero_le _⟩ gX12_bodyFrom_0.2.2.2.2.1 (Keqr ?_)
  refine lv_if_ne (tgt := 22) hx hb gX12_bodyFrom_0.2.2.2.2.2.1 (by decide) (fun _ => ?_) (fun c9 => absurd c9 (by decide))
  refine lv_aload_n hx hb gX12_bodyFrom_1.1 rfl (lv_at1 hl) ?_
  refine lv_iload hx hb gX12_bodyFrom_1.2.1 (lv_at0 hl) ?_
  refine lv_iload_n hx hb gX12_bodyFrom_1.2.2.1 rfl (lv_at3 hl) ?_
  refine lv_iload_n hx hb gX12_bodyFrom_1.2.2.2.1 rfl (lv_at4 hl) ?_
  refine iV (wr := []) hC hK hl hP hD hS hA (m_body22 l G h0 xx nw nk mhasKept nt mtaped nr mrowMany mroundOf mroundFrom mouts nm mfromHour mtoHour ns mfrom mto msort misFault mdeep mcoded mlines nl nc nF np ntr nb mbestCost nso nsi nit nsh nsf nss nrc jr jd mnumber mwhose msize misParted fnrc (hjr) (hjd)) si_X12_363 [0, 1] [] sm_0_1 fm_0_1 nd_0_1 rfl rfl (by decide) rfl rfl rfl rfl rfl (Nat.le_of_ble_eq_true rfl) rm_30_29_6 ⟨Nat.le_of_ble_eq_true rfl, Nat.le_of_ble_eq_true rfl⟩ gX12_bodyFrom_1.2.2.2.2.1 (fun r6475 => Ktu3 fun jr16477 ip16478 gtrc6479 => ?_)
  intro H locs hr6475 hP hD hS
  try dsimp only at hr6475
  refine Kpdr (ws := [(h0, oX12 nw nk mhasKept nt mtaped nr mrowMany mroundOf mroundFrom mouts nm mfromHour mtoHour ns mfrom mto msort misFault mdeep mcoded mlines nl nc nF np ntr nb mbestCost nso nsi nit nsh nsf nss nrc (nI jr16477) (nI jd) mnumber mwhose msize ip16478), (nrc, iA G 30 gtrc6479)]) hP hD (fun hP hD => ?_)
  obtain ⟨hr6475, w6480⟩ := hr6475
  refine toQ hQ0 ?_
  exact RI (v := r6475) hC hP hD hS [0, 1] (jr16477, ip16478, gtrc6479) rfl rfl (by decide) (⟨trivial, by omega⟩) rfl gX12_bodyFrom_1.2.2.2.2.2
def K_m_body42 (l : Launch) (G : GG) (h0 : Nat) (xx : Int32) (nw : Nat) (nk : Nat) (mhasKept : Int32) (nt : Nat) (mtaped : Int32) (nr : Nat) (mrowMany : Int32) (mroundOf : Int32) (mroundFrom : Int32) (mouts : Int32) (nm : Nat) (mfromHour : Int32) (mtoHour : Int32) (ns : Nat) (mfrom : Int32) (mto : Int32) (msort : Int32) (misFault : Int32) (mdeep : Int32) (mcoded : Int32) (mlines : Int32) (nl : Nat) (nc : Nat) (nF : Nat) (np : Nat) (ntr : Nat) (nb : Nat) (mbestCost : Int32) (nso : Nat) (nsi : Nat) (nit : Nat) (nsh : Nat) (nsf : Nat) (nss : Nat) (nrc : Nat) (jr : Nat) (jd : Nat) (mnumber : Int32) (mwhose : Int32) (msize : Int32) (misParted : Int32) (fnrc : Nat → Int32) : Prop := MI l G yX12_body cX12_body 6 (some .int) 31 0 0 [.ref h0, .int 4, .int 2, .int xx] [(h0, oX12 nw nk mhasKept nt mtaped nr mrowMany mroundOf mroundFrom mouts nm mfromHour mtoHour ns mfrom mto msort misFault mdeep mcoded mlines nl nc nF np ntr nb mbestCost nso nsi nit nsh nsf nss nrc (nI jr) (nI jd) mnumber mwhose msize misParted), (nrc, iA G 30 fnrc)] (fun (r : Int32) (u : Nat × Int32 × (Nat → Int32)) => (True) ∧ (u.1 ≤ 30)) (fun u : Nat × Int32 × (Nat → Int32) => [(h0, oX12 nw nk mhasKept nt mtaped nr mrowMany mroundOf mroundFrom mouts nm mfromHour mtoHour ns mfrom mto msort misFault mdeep mcoded mlines nl nc nF np ntr nb mbestCost nso nsi nit nsh nsf nss nrc (nI u.1) (nI jd) mnumber mwhose msize u.2.1), (nrc, iA G 30 u.2.2)])
set_option maxHeartbeats 4000000 in
set_option maxRecDepth 100000 in
theorem m_body42 (l : Launch) (G : GG) (h0 : Nat) (xx : Int32) (nw : Nat) (nk : Nat) (mhasKept : Int32) (nt : Nat) (mtaped : Int32) (nr : Nat) (mrowMany : Int32) (mroundOf : Int32) (mroundFrom : Int32) (mouts : Int32) (nm : Nat) (mfromHour : Int32) (mtoHour : Int32) (ns : Nat) (mfrom : Int32) (mto : Int32) (msort : Int32) (misFault : Int32) (mdeep : Int32) (mcoded : Int32) (mlines : Int32) (nl : Nat) (nc : Nat) (nF : Nat) (np : Nat) (ntr : Nat) (nb : Nat) (mbestCost : Int32) (nso : Nat) (nsi : Nat) (nit : Nat) (nsh : Nat) (nsf : Nat) (nss : Nat) (nrc : Nat) (jr : Nat) (jd : Nat) (mnumber : Int32) (mwhose : Int32) (msize : Int32) (misParted : Int32) (fnrc : Nat → Int32) (hjr : jr ≤ 30) (hjd : jd < 7) : K_m_body42 l G h0 xx nw nk mhasKept nt mtaped nr mrowMany mroundOf mroundFrom mouts nm mfromHour mtoHour ns mfrom mto msort misFault mdeep mcoded mlines nl nc nF np ntr nb mbestCost nso nsi nit nsh nsf nss nrc jr jd mnumber mwhose msize misParted fnrc := by
  refine MI.start (by decide +kernel) (Nat.le_of_ble_eq_true rfl) ?_
  intro p e s m below meth c A ls hC hK hP hD hS hA hl
  refine absQ (fun Q0 hQ0 => ?_)
  have hl : lv_has ls 6 [(0, .ref h0), (1, .int 4), (2, .int 2), (3, .int xx)] := hl
  refine Kan8 hC (fun hx hb hr hml hB hown hlocks hnm => ?_)
  refine lv_iconst (v := 4) hx hb gX12_body_0.1 (by decide) ?_
  refine lv_iload_n hx hb gX12_body_0.2.1 rfl (lv_at1 hl) ?_
  refine lv_imul hx hb gX12_body_0.2.2.1 ?_
  refine eqi (x1 := 16) (by decide) ?_
  refine lv_iload_n hx hb gX12_body_0.2.2.2.1 rfl (lv_at2 hl) ?_
  refine lv_iadd hx hb gX12_body_0.2.2.2.2.1 ?_
  refine eqi (x1 := 18) (by decide) ?_
  refine lv_tableIn (tgt := 293) hx hb gX12_body_0.2.2.2.2.2.1 (by decide) (by decide) rfl (by decide) ?_
  refine lv_aload_n hx hb gX12_body_11.2.2.2.2.2.2.2.2.1 rfl (lv_at0 hl) ?_
  refine lv_bipush (v := 51) hx hb gX12_body_11.2.2.2.2.2.2.2.2.2 (by decide) ?_
  refine vV (wr := []) hC hK hl hP hD hS hA (m_began l G h0 51 nw nk mhasKept nt mtaped nr mrowMany mroundOf mroundFrom mouts nm mfromHour mtoHour ns mfrom mto msort misFault mdeep mcoded mlines nl nc nF np ntr nb mbestCost nso nsi nit nsh nsf nss nrc jr (nI jd) mnumber mwhose msize misParted fnrc (hjr)) si_X12_366 [0, 1] [] sm_0_1 fm_0_1 nd_0_1 rfl rfl (by decide) rfl rfl rfl rfl rfl (Nat.le_of_ble_eq_true rfl) rm_31_1_2 ⟨Nat.le_of_ble_eq_true rfl, Nat.le_of_ble_eq_true rfl⟩ gX12_body_12.1 (Ktu2 fun jr16483 gtrc6484 => ?_)
  intro H locs hr6481 hP hD hS
  try dsimp only at hr6481
  refine Kpdr (ws := [(h0, oX12 nw nk mhasKept nt mtaped nr mrowMany mroundOf mroundFrom mouts nm mfromHour mtoHour ns mfrom mto msort misFault mdeep mcoded mlines nl nc nF np ntr nb mbestCost nso nsi nit nsh nsf nss nrc (nI jr16483) (nI jd) mnumber mwhose msize misParted), (nrc, iA G 30 gtrc6484)]) hP hD (fun hP hD => ?_)
  have w6485 := hr6481
  refine lv_aload_n hx hb gX12_body_12.2.1 rfl (lv_at0 hl) ?_
  refine lv_iconst (v := 0) hx hb gX12_body_12.2.2.1 (by decide) ?_
  refine lv_iconst (v := 2) hx hb gX12_body_12.2.2.2.1 (by decide) ?_
  refine lv_iload_n hx hb gX12_body_12.2.2.2.2.1 rfl (lv_at3 hl) ?_
  refine iV (wr := []) hC hK hl hP hD hS hA (m_from02 l G h0 xx nw nk mhasKept nt mtaped nr mrowMany mroundOf mroundFrom mouts nm mfromHour mtoHour ns mfrom mto msort misFault mdeep mcoded mlines nl nc nF np ntr nb mbestCost nso nsi nit nsh nsf nss nrc jr16483 jd mnumber mwhose msize misParted gtrc6484 (w6485) (hjd)) si_X12_357 [0, 1] [] sm_0_1 fm_0_1 nd_0_1 rfl rfl (by decide) rfl rfl rfl rfl rfl (Nat.le_of_ble_eq_true rfl) rm_31_28_5 ⟨Nat.le_of_ble_eq_true rfl, Nat.le_of_ble_eq_true rfl⟩ gX12_body_12.2.2.2.2.2.1 (fun r6486 => Ktu3 fun jr16488 ip16489 gtrc6490 => ?_)
  intro H locs hr6486 hP hD hS
  try dsimp only at hr6486
  refine Kpdr (ws := [(h0, oX12 nw nk mhasKept nt mtaped nr mrowMany mroundOf mroundFrom mouts nm mfromHour mtoHour ns mfrom mto msort misFault mdeep mcoded mlines nl nc nF np ntr nb mbestCost nso nsi nit nsh nsf nss nrc (nI jr16488) (nI jd) mnumber mwhose msize ip16489), (nrc, iA G 30 gtrc6490)]) hP hD (fun hP hD => ?_)
  obtain ⟨hr6486, w6491⟩ := hr6486
  refine lv_istore (lv' := [(4, .int r6486), (0, .ref h0), (1, .int 4), (2, .int 2), (3, .int xx)]) hx hb gX12_body_12.2.2.2.2.2.2.1 hl (by decide) rfl (fun ls hl => ?_)
  refine lv_iload hx hb gX12_body_12.2.2.2.2.2.2.2.1 (lv_at0 hl) ?_
  refine lv_aload_n hx hb gX12_body_12.2.2.2.2.2.2.2.2.1 rfl (lv_at1 hl) ?_
  refine lv_iconst (v := 1) hx hb gX12_body_12.2.2.2.2.2.2.2.2.2 (by decide) ?_
  refine lv_iconst (v := 1) hx hb gX12_body_13.1 (by decide) ?_
  refine iV (wr := []) hC hK hl hP hD hS hA (m_dealt1 l G h0 1 nw nk mhasKept nt mtaped nr mrowMany mroundOf mroundFrom mouts nm mfromHour mtoHour ns mfrom mto msort misFault mdeep mcoded mlines nl nc nF np ntr nb mbestCost nso nsi nit nsh nsf nss nrc jr16488 jd mnumber mwhose msize ip16489 gtrc6490 (w6491) (hjd)) si_X12_372 [0, 1] [] sm_0_1 fm_0_1 nd_0_1 rfl rfl (by decide) rfl rfl rfl rfl rfl (Nat.le_of_ble_eq_true rfl) rm_31_26_3 ⟨Nat.le_of_ble_eq_true rfl, Nat.le_of_ble_eq_true rfl⟩ gX12_body_13.2.1 (fun r6492 => Ktu3 fun jr16494 ip16495 gtrc6496 => ?_)
  intro H locs hr6492 hP hD hS
  try dsimp only at hr6492
  refine Kpdr (ws := [(h0, oX12 nw nk mhasKept nt mtaped nr mrowMany mroundOf mroundFrom mouts nm mfromHour mtoHour ns mfrom mto msort misFault mdeep mcoded mlines nl nc nF np ntr nb mbestCost nso nsi nit nsh nsf nss nrc (nI jr16494) (nI jd) mnumber mwhose msize ip16495), (nrc, iA G 30 gtrc6496)]) hP hD (fun hP hD => ?_)
  obtain ⟨hr6492, w6497⟩ := hr6492
  refine lv_iadd hx hb gX12_body_13.2.2.1 ?_
  refine toQ hQ0 ?_
  exact RI (v := r6486 + r6492) hC hP hD hS [0, 1] (jr16494, ip16495, gtrc6496) rfl rfl (by decide) (⟨trivial, by omega⟩) rfl gX12_body_13.2.2.2.1
def K_m_from42 (l : Launch) (G : GG) (h0 : Nat) (xx : Int32) (nw : Nat) (nk : Nat) (mhasKept : Int32) (nt : Nat) (mtaped : Int32) (nr : Nat) (mrowMany : Int32) (mroundOf : Int32) (mroundFrom : Int32) (mouts : Int32) (nm : Nat) (mfromHour : Int32) (mtoHour : Int32) (ns : Nat) (mfrom : Int32) (mto : Int32) (msort : Int32) (misFault : Int32) (mdeep : Int32) (mcoded : Int32) (mlines : Int32) (nl : Nat) (nc : Nat) (nF : Nat) (np : Nat) (ntr : Nat) (nb : Nat) (mbestCost : Int32) (nso : Nat) (nsi : Nat) (nit : Nat) (nsh : Nat) (nsf : Nat) (nss : Nat) (nrc : Nat) (jr : Nat) (jd : Nat) (mnumber : Int32) (mwhose : Int32) (msize : Int32) (misParted : Int32) (fnrc : Nat → Int32) : Prop := MI l G yX12_bodyFrom cX12_bodyFrom 5 (some .int) 32 0 0 [.ref h0, .int 4, .int 2, .int xx] [(h0, oX12 nw nk mhasKept nt mtaped nr mrowMany mroundOf mroundFrom mouts nm mfromHour mtoHour ns mfrom mto msort misFault mdeep mcoded mlines nl nc nF np ntr nb mbestCost nso nsi nit nsh nsf nss nrc (nI jr) (nI jd) mnumber mwhose msize misParted), (nrc, iA G 30 fnrc)] (fun (r : Int32) (u : Nat × Int32 × (Nat → Int32)) => (True) ∧ (u.1 ≤ 30)) (fun u : Nat × Int32 × (Nat → Int32) => [(h0, oX12 nw nk mhasKept nt mtaped nr mrowMany mroundOf mroundFrom mouts nm mfromHour mtoHour ns mfrom mto msort misFault mdeep mcoded mlines nl nc nF np ntr nb mbestCost nso nsi nit nsh nsf nss nrc (nI u.1) (nI jd) mnumber mwhose msize u.2.1), (nrc, iA G 30 u.2.2)])
set_option maxHeartbeats 4000000 in
set_option maxRecDepth 100000 in
theorem m_from42 (l : Launch) (G : GG) (h0 : Nat) (xx : Int32) (nw : Nat) (nk : Nat) (mhasKept : Int32) (nt : Nat) (mtaped : Int32) (nr : Nat) (mrowMany : Int32) (mroundOf : Int32) (mroundFrom : Int32) (mouts : Int32) (nm : Nat) (mfromHour : Int32) (mtoHour : Int32) (ns : Nat) (mfrom : Int32) (mto : Int32) (msort : Int32) (misFault : Int32) (mdeep : Int32) (mcoded : Int32) (mlines : Int32) (nl : Nat) (nc : Nat) (nF : Nat) (np : Nat) (ntr : Nat) (nb : Nat) (mbestCost : Int32) (nso : Nat) (nsi : Nat) (nit : Nat) (nsh : Nat) (nsf : Nat) (nss : Nat) (nrc : Nat) (jr : Nat) (jd : Nat) (mnumber : Int32) (mwhose : Int32) (msize : Int32) (misParted : Int32) (fnrc : Nat → Int32) (hjr : jr ≤ 30) (hjd : jd < 7) : K_m_from42 l G h0 xx nw nk mhasKept nt mtaped nr mrowMany mroundOf mroundFrom mouts nm mfromHour mtoHour ns mfrom mto msort misFault mdeep mcoded mlines nl nc nF np ntr nb mbestCost nso nsi nit nsh nsf nss nrc jr jd mnumber mwhose msize misParted fnrc := by
  refine MI.start (by decide +kernel) (Nat.le_of_ble_eq_true rfl) ?_
  intro p e s m below meth c A ls hC hK hP hD hS hA hl
  refine absQ (fun Q0 hQ0 => ?_)
  have hl : lv_has ls 5 [(0, .ref h0), (1, .int 4), (2, .int 2), (3, .int xx)] := hl
  refine Kan8 hC (fun hx hb hr hml hB hown hlocks hnm => ?_)
  refine lv_iload_n hx hb gX12_bodyFrom_0.1 rfl (lv_at1 hl) ?_
  refine lv_istore (lv' := [(4, .int 4), (0, .ref h0), (1, .int 4), (2, .int 2), (3, .int xx)]) hx hb gX12_bodyFrom_0.2.1 hl (by decide) rfl (fun ls hl => ?_)
  refine lv_iload hx hb gX12_bodyFrom_0.2.2.1 (lv_at0 hl) ?_
  refine lv_iload_n hx hb gX12_bodyFrom_0.2.2.2.1 rfl (lv_at3 hl) ?_
  refine pS hC hK hl (m_hasOwn42 l G) si_X12_360 rfl rfl (Nat.le_of_ble_eq_true rfl) rm_32_1_2 ⟨by first | exact Nat.le_of_ble_eq_true rfl | exact Nat.zero_le _, by first | exact Nat.le_of_ble_eq_true rfl | exact Nat.zero_le _⟩ gX12_bodyFrom_0.2.2.2.2.1 (Keqr ?_)
  refine lv_if_ne (tgt := 22) hx hb gX12_bodyFrom_0.2.2.2.2.2.1 (by decide) (fun _ => ?_) (fun c9 => absurd c9 (by decide))
  refine lv_aload_n hx hb gX12_bodyFrom_1.1 rfl (lv_at1 hl) ?_
  refine lv_iload hx hb gX12_bodyFrom_1.2.1 (lv_at0 hl) ?_
  refine lv_iload_n hx hb gX12_bodyFrom_1.2.2.1 rfl (lv_at3 hl) ?_
  refine lv_iload_n hx hb gX12_bodyFrom_1.2.2.2.1 rfl (lv_at4 hl) ?_
  refine iV (wr := []) hC hK hl hP hD hS hA (m_body42 l G h0 xx nw nk mhasKept nt mtaped nr mrowMany mroundOf mroundFrom mouts nm mfromHour mtoHour ns mfrom mto msort misFault mdeep mcoded mlines nl nc nF np ntr nb mbestCost nso nsi nit nsh nsf nss nrc jr jd mnumber mwhose msize misParted fnrc (hjr) (hjd)) si_X12_363 [0, 1] [] sm_0_1 fm_0_1 nd_0_1 rfl rfl (by decide) rfl rfl rfl rfl rfl (Nat.le_of_ble_eq_true rfl) rm_32_31_6 ⟨Nat.le_of_ble_eq_true rfl, Nat.le_of_ble_eq_true rfl⟩ gX12_bodyFrom_1.2.2.2.2.1 (fun r6500 => Ktu3 fun jr16502 ip16503 gtrc6504 => ?_)
  intro H locs hr6500 hP hD hS
  try dsimp only at hr6500
  refine Kpdr (ws := [(h0, oX12 nw nk mhasKept nt mtaped nr mrowMany mroundOf mroundFrom mouts nm mfromHour mtoHour ns mfrom mto msort misFault mdeep mcoded mlines nl nc nF np ntr nb mbestCost nso nsi nit nsh nsf nss nrc (nI jr16502) (nI jd) mnumber mwhose msize ip16503), (nrc, iA G 30 gtrc6504)]) hP hD (fun hP hD => ?_)
  obtain ⟨hr6500, w6505⟩ := hr6500
  refine toQ hQ0 ?_
  exact RI (v := r6500) hC hP hD hS [0, 1] (jr16502, ip16503, gtrc6504) rfl rfl (by decide) (⟨trivial, by omega⟩) rfl gX12_bodyFrom_1.2.2.2.2.2
def K_m_body52 (l : Launch) (G : GG) (h0 : Nat) (xx : Int32) (nw : Nat) (nk : Nat) (mhasKept : Int32) (nt : Nat) (mtaped : Int32) (nr : Nat) (mrowMany : Int32) (mroundOf : Int32) (mroundFrom : Int32) (mouts : Int32) (nm : Nat) (mfromHour : Int32) (mtoHour : Int32) (ns : Nat) (mfrom : Int32) (mto : Int32) (msort : Int32) (misFault : Int32) (mdeep : Int32) (mcoded : Int32) (mlines : Int32) (nl : Nat) (nc : Nat) (nF : Nat) (np : Nat) (ntr : Nat) (nb : Nat) (mbestCost : Int32) (nso : Nat) (nsi : Nat) (nit : Nat) (nsh : Nat) (nsf : Nat) (nss : Nat) (nrc : Nat) (jr : Nat) (jd : Nat) (mnumber : Int32) (mwhose : Int32) (msize : Int32) (misParted : Int32) (fnrc : Nat → Int32) : Prop := MI l G yX12_body cX12_body 6 (some .int) 33 0 0 [.ref h0, .int 5, .int 2, .int xx] [(h0, oX12 nw nk mhasKept nt mtaped nr mrowMany mroundOf mroundFrom mouts nm mfromHour mtoHour ns mfrom mto msort misFault mdeep mcoded mlines nl nc nF np ntr nb mbestCost nso nsi nit nsh nsf nss nrc (nI jr) (nI jd) mnumber mwhose msize misParted), (nrc, iA G 30 fnrc)] (fun (r : Int32) (u : Nat × Int32 × (Nat → Int32)) => (True) ∧ (u.1 ≤ 30)) (fun u : Nat × Int32 × (Nat → Int32) => [(h0, oX12 nw nk mhasKept nt mtaped nr mrowMany mroundOf mroundFrom mouts nm mfromHour mtoHour ns mfrom mto msort misFault mdeep mcoded mlines nl nc nF np ntr nb mbestCost nso nsi nit nsh nsf nss nrc (nI u.1) (nI jd) mnumber mwhose msize u.2.1), (nrc, iA G 30 u.2.2)])
set_option maxHeartbeats 4000000 in
set_option maxRecDepth 100000 in
theorem m_body52 (l : Launch) (G : GG) (h0 : Nat) (xx : Int32) (nw : Nat) (nk : Nat) (mhasKept : Int32) (nt : Nat) (mtaped : Int32) (nr : Nat) (mrowMany : Int32) (mroundOf : Int32) (mroundFrom : Int32) (mouts : Int32) (nm : Nat) (mfromHour : Int32) (mtoHour : Int32) (ns : Nat) (mfrom : Int32) (mto : Int32) (msort : Int32) (misFault : Int32) (mdeep : Int32) (mcoded : Int32) (mlines : Int32) (nl : Nat) (nc : Nat) (nF : Nat) (np : Nat) (ntr : Nat) (nb : Nat) (mbestCost : Int32) (nso : Nat) (nsi : Nat) (nit : Nat) (nsh : Nat) (nsf : Nat) (nss : Nat) (nrc : Nat) (jr : Nat) (jd : Nat) (mnumber : Int32) (mwhose : Int32) (msize : Int32) (misParted : Int32) (fnrc : Nat → Int32) (hjr : jr ≤ 30) (hjd : jd < 7) : K_m_body52 l G h0 xx nw nk mhasKept nt mtaped nr mrowMany mroundOf mroundFrom mouts nm mfromHour mtoHour ns mfrom mto msort misFault mdeep mcoded mlines nl nc nF np ntr nb mbestCost nso nsi nit nsh nsf nss nrc jr jd mnumber mwhose msize misParted fnrc := by
  refine MI.start (by decide +kernel) (Nat.le_of_ble_eq_true rfl) ?_
  intro p e s m below meth c A ls hC hK hP hD hS hA hl
  refine absQ (fun Q0 hQ0 => ?_)
  have hl : lv_has ls 6 [(0, .ref h0), (1, .int 5), (2, .int 2), (3, .int xx)] := hl
  refine Kan8 hC (fun hx hb hr hml hB hown hlocks hnm => ?_)
  refine lv_iconst (v := 4) hx hb gX12_body_0.1 (by decide) ?_
  refine lv_iload_n hx hb gX12_body_0.2.1 rfl (lv_at1 hl) ?_
  refine lv_imul hx hb gX12_body_0.2.2.1 ?_
  refine eqi (x1 := 20) (by decide) ?_
  refine lv_iload_n hx hb gX12_body_0.2.2.2.1 rfl (lv_at2 hl) ?_
  refine lv_iadd hx hb gX12_body_0.2.2.2.2.1 ?_
  refine eqi (x1 := 22) (by decide) ?_
  refine lv_tableIn (tgt := 318) hx hb gX12_body_0.2.2.2.2.2.1 (by decide) (by decide) rfl (by decide) ?_
  refine lv_aload_n hx hb gX12_body_13.2.2.2.2.1 rfl (lv_at0 hl) ?_
  refine lv_bipush (v := 60) hx hb gX12_body_13.2.2.2.2.2.1 (by decide) ?_
  refine vV (wr := []) hC hK hl hP hD hS hA (m_began l G h0 60 nw nk mhasKept nt mtaped nr mrowMany mroundOf mroundFrom mouts nm mfromHour mtoHour ns mfrom mto msort misFault mdeep mcoded mlines nl nc nF np ntr nb mbestCost nso nsi nit nsh nsf nss nrc jr (nI jd) mnumber mwhose msize misParted fnrc (hjr)) si_X12_366 [0, 1] [] sm_0_1 fm_0_1 nd_0_1 rfl rfl (by decide) rfl rfl rfl rfl rfl (Nat.le_of_ble_eq_true rfl) rm_33_1_2 ⟨Nat.le_of_ble_eq_true rfl, Nat.le_of_ble_eq_true rfl⟩ gX12_body_13.2.2.2.2.2.2.1 (Ktu2 fun jr16508 gtrc6509 => ?_)
  intro H locs hr6506 hP hD hS
  try dsimp only at hr6506
  refine Kpdr (ws := [(h0, oX12 nw nk mhasKept nt mtaped nr mrowMany mroundOf mroundFrom mouts nm mfromHour mtoHour ns mfrom mto msort misFault mdeep mcoded mlines nl nc nF np ntr nb mbestCost nso nsi nit nsh nsf nss nrc (nI jr16508) (nI jd) mnumber mwhose msize misParted), (nrc, iA G 30 gtrc6509)]) hP hD (fun hP hD => ?_)
  have w6510 := hr6506
  refine lv_aload_n hx hb gX12_body_13.2.2.2.2.2.2.2.1 rfl (lv_at0 hl) ?_
  refine lv_iconst (v := 4) hx hb gX12_body_13.2.2.2.2.2.2.2.2.1 (by decide) ?_
  refine lv_iconst (v := 2) hx hb gX12_body_13.2.2.2.2.2.2.2.2.2 (by decide) ?_
  refine lv_iload_n hx hb gX12_body_14.1 rfl (lv_at3 hl) ?_
  refine iV (wr := []) hC hK hl hP hD hS hA (m_from42 l G h0 xx nw nk mhasKept nt mtaped nr mrowMany mroundOf mroundFrom mouts nm mfromHour mtoHour ns mfrom mto msort misFault mdeep mcoded mlines nl nc nF np ntr nb mbestCost nso nsi nit nsh nsf nss nrc jr16508 jd mnumber mwhose msize misParted gtrc6509 (w6510) (hjd)) si_X12_357 [0, 1] [] sm_0_1 fm_0_1 nd_0_1 rfl rfl (by decide) rfl rfl rfl rfl rfl (Nat.le_of_ble_eq_true rfl) rm_33_32_5 ⟨Nat.le_of_ble_eq_true rfl, Nat.le_of_ble_eq_true rfl⟩ gX12_body_14.2.1 (fun r6511 => Ktu3 fun jr16513 ip16514 gtrc6515 => ?_)
  intro H locs hr6511 hP hD hS
  try dsimp only at hr6511
  refine Kpdr (ws := [(h0, oX12 nw nk mhasKept nt mtaped nr mrowMany mroundOf mroundFrom mouts nm mfromHour mtoHour ns mfrom mto msort misFault mdeep mcoded mlines nl nc nF np ntr nb mbestCost nso nsi nit nsh nsf nss nrc (nI jr16513) (nI jd) mnumber mwhose msize ip16514), (nrc, iA G 30 gtrc6515)]) hP hD (fun hP hD => ?_)
  obtain ⟨hr6511, w6516⟩ := hr6511
  refine lv_iconst (v := 2) hx hb gX12_body_14.2.2.1 (by decide) ?_
  refine lv_imul hx hb gX12_body_14.2.2.2.1 ?_
  refine toQ hQ0 ?_
  exact RI (v := r6511 * 2) hC hP hD hS [0, 1] (jr16513, ip16514, gtrc6515) rfl rfl (by decide) (⟨trivial, by omega⟩) rfl gX12_body_14.2.2.2.2.1
def K_m_from52 (l : Launch) (G : GG) (h0 : Nat) (xx : Int32) (nw : Nat) (nk : Nat) (mhasKept : Int32) (nt : Nat) (mtaped : Int32) (nr : Nat) (mrowMany : Int32) (mroundOf : Int32) (mroundFrom : Int32) (mouts : Int32) (nm : Nat) (mfromHour : Int32) (mtoHour : Int32) (ns : Nat) (mfrom : Int32) (mto : Int32) (msort : Int32) (misFault : Int32) (mdeep : Int32) (mcoded : Int32) (mlines : Int32) (nl : Nat) (nc : Nat) (nF : Nat) (np : Nat) (ntr : Nat) (nb : Nat) (mbestCost : Int32) (nso : Nat) (nsi : Nat) (nit : Nat) (nsh : Nat) (nsf : Nat) (nss : Nat) (nrc : Nat) (jr : Nat) (jd : Nat) (mnumber : Int32) (mwhose : Int32) (msize : Int32) (misParted : Int32) (fnrc : Nat → Int32) : Prop := MI l G yX12_bodyFrom cX12_bodyFrom 5 (some .int) 34 0 0 [.ref h0, .int 5, .int 2, .int xx] [(h0, oX12 nw nk mhasKept nt mtaped nr mrowMany mroundOf mroundFrom mouts nm mfromHour mtoHour ns mfrom mto msort misFault mdeep mcoded mlines nl nc nF np ntr nb mbestCost nso nsi nit nsh nsf nss nrc (nI jr) (nI jd) mnumber mwhose msize misParted), (nrc, iA G 30 fnrc)] (fun (r : Int32) (u : Nat × Int32 × (Nat → Int32)) => (True) ∧ (u.1 ≤ 30)) (fun u : Nat × Int32 × (Nat → Int32) => [(h0, oX12 nw nk mhasKept nt mtaped nr mrowMany mroundOf mroundFrom mouts nm mfromHour mtoHour ns mfrom mto msort misFault mdeep mcoded mlines nl nc nF np ntr nb mbestCost nso nsi nit nsh nsf nss nrc (nI u.1) (nI jd) mnumber mwhose msize u.2.1), (nrc, iA G 30 u.2.2)])
set_option maxHeartbeats 4000000 in
set_option maxRecDepth 100000 in
theorem m_from52 (l : Launch) (G : GG) (h0 : Nat) (xx : Int32) (nw : Nat) (nk : Nat) (mhasKept : Int32) (nt : Nat) (mtaped : Int32) (nr : Nat) (mrowMany : Int32) (mroundOf : Int32) (mroundFrom : Int32) (mouts : Int32) (nm : Nat) (mfromHour : Int32) (mtoHour : Int32) (ns : Nat) (mfrom : Int32) (mto : Int32) (msort : Int32) (misFault : Int32) (mdeep : Int32) (mcoded : Int32) (mlines : Int32) (nl : Nat) (nc : Nat) (nF : Nat) (np : Nat) (ntr : Nat) (nb : Nat) (mbestCost : Int32) (nso : Nat) (nsi : Nat) (nit : Nat) (nsh : Nat) (nsf : Nat) (nss : Nat) (nrc : Nat) (jr : Nat) (jd : Nat) (mnumber : Int32) (mwhose : Int32) (msize : Int32) (misParted : Int32) (fnrc : Nat → Int32) (hjr : jr ≤ 30) (hjd : jd < 7) : K_m_from52 l G h0 xx nw nk mhasKept nt mtaped nr mrowMany mroundOf mroundFrom mouts nm mfromHour mtoHour ns mfrom mto msort misFault mdeep mcoded mlines nl nc nF np ntr nb mbestCost nso nsi nit nsh nsf nss nrc jr jd mnumber mwhose msize misParted fnrc := by
  refine MI.start (by decide +kernel) (Nat.le_of_ble_eq_true rfl) ?_
  intro p e s m below meth c A ls hC hK hP hD hS hA hl
  refine absQ (fun Q0 hQ0 => ?_)
  have hl : lv_has ls 5 [(0, .ref h0), (1, .int 5), (2, .int 2), (3, .int xx)] := hl
  refine Kan8 hC (fun hx hb hr hml hB hown hlocks hnm => ?_)
  refine lv_iload_n hx hb gX12_bodyFrom_0.1 rfl (lv_at1 hl) ?_
  refine lv_istore (lv' := [(4, .int 5), (0, .ref h0), (1, .int 5), (2, .int 2), (3, .int xx)]) hx hb gX12_bodyFrom_0.2.1 hl (by decide) rfl (fun ls hl => ?_)
  refine lv_iload hx hb gX12_bodyFrom_0.2.2.1 (lv_at0 hl) ?_
  refine lv_iload_n hx hb gX12_bodyFrom_0.2.2.2.1 rfl (lv_at3 hl) ?_
  refine pS hC hK hl (m_hasOwn52 l G) si_X12_360 rfl rfl (Nat.le_of_ble_eq_true rfl) rm_34_1_2 ⟨by first | exact Nat.le_of_ble_eq_true rfl | exact Nat.zero_le _, by first | exact Nat.le_of_ble_eq_true rfl | exact Nat.zero_le _⟩ gX12_bodyFrom_0.2.2.2.2.1 (Keqr ?_)
  refine lv_if_ne (tgt := 22) hx hb gX12_bodyFrom_0.2.2.2.2.2.1 (by decide) (fun _ => ?_) (fun c9 => absurd c9 (by decide))
  refine lv_aload_n hx hb gX12_bodyFrom_1.1 rfl (lv_at1 hl) ?_
  refine lv_iload hx hb gX12_bodyFrom_1.2.1 (lv_at0 hl) ?_
  refine lv_iload_n hx hb gX12_bodyFrom_1.2.2.1 rfl (lv_at3 hl) ?_
  refine lv_iload_n hx hb gX12_bodyFrom_1.2.2.2.1 rfl (lv_at4 hl) ?_
  refine iV (wr := []) hC hK hl hP hD hS hA (m_body52 l G h0 xx nw nk mhasKept nt mtaped nr mrowMany mroundOf mroundFrom mouts nm mfromHour mtoHour ns mfrom mto msort misFault mdeep mcoded mlines nl nc nF np ntr nb mbestCost nso nsi nit nsh nsf nss nrc jr jd mnumber mwhose msize misParted fnrc (hjr) (hjd)) si_X12_363 [0, 1] [] sm_0_1 fm_0_1 nd_0_1 rfl rfl (by decide) rfl rfl rfl rfl rfl (Nat.le_of_ble_eq_true rfl) rm_34_33_6 ⟨Nat.le_of_ble_eq_true rfl, Nat.le_of_ble_eq_true rfl⟩ gX12_bodyFrom_1.2.2.2.2.1 (fun r6519 => Ktu3 fun jr16521 ip16522 gtrc6523 => ?_)
  intro H locs hr6519 hP hD hS
  try dsimp only at hr6519
  refine Kpdr (ws := [(h0, oX12 nw nk mhasKept nt mtaped nr mrowMany mroundOf mroundFrom mouts nm mfromHour mtoHour ns mfrom mto msort misFault mdeep mcoded mlines nl nc nF np ntr nb mbestCost nso nsi nit nsh nsf nss nrc (nI jr16521) (nI jd) mnumber mwhose msize ip16522), (nrc, iA G 30 gtrc6523)]) hP hD (fun hP hD => ?_)
  obtain ⟨hr6519, w6524⟩ := hr6519
  refine toQ hQ0 ?_
  exact RI (v := r6519) hC hP hD hS [0, 1] (jr16521, ip16522, gtrc6523) rfl rfl (by decide) (⟨trivial, by omega⟩) rfl gX12_bodyFrom_1.2.2.2.2.2
def K_m_from12 (l : Launch) (G : GG) (h0 : Nat) (xx : Int32) (nw : Nat) (nk : Nat) (mhasKept : Int32) (nt : Nat) (mtaped : Int32) (nr : Nat) (mrowMany : Int32) (mroundOf : Int32) (mroundFrom : Int32) (mouts : Int32) (nm : Nat) (mfromHour : Int32) (mtoHour : Int32) (ns : Nat) (mfrom : Int32) (mto : Int32) (msort : Int32) (misFault : Int32) (mdeep : Int32) (mcoded : Int32) (mlines : Int32) (nl : Nat) (nc : Nat) (nF : Nat) (np : Nat) (ntr : Nat) (nb : Nat) (mbestCost : Int32) (nso : Nat) (nsi : Nat) (nit : Nat) (nsh : Nat) (nsf : Nat) (nss : Nat) (nrc : Nat) (jr : Nat) (jd : Nat) (mnumber : Int32) (mwhose : Int32) (msize : Int32) (misParted : Int32) (fnrc : Nat → Int32) : Prop := MI l G yX12_bodyFrom cX12_bodyFrom 5 (some .int) 36 0 0 [.ref h0, .int 1, .int 2, .int xx] [(h0, oX12 nw nk mhasKept nt mtaped nr mrowMany mroundOf mroundFrom mouts nm mfromHour mtoHour ns mfrom mto msort misFault mdeep mcoded mlines nl nc nF np ntr nb mbestCost nso nsi nit nsh nsf nss nrc (nI jr) (nI jd) mnumber mwhose msize misParted), (nrc, iA G 30 fnrc)] (fun (r : Int32) (u : Nat × Int32 × (Nat → Int32)) => (True) ∧ (u.1 ≤ 30)) (fun u : Nat × Int32 × (Nat → Int32) => [(h0, oX12 nw nk mhasKept nt mtaped nr mrowMany mroundOf mroundFrom mouts nm mfromHour mtoHour ns mfrom mto msort misFault mdeep mcoded mlines nl nc nF np ntr nb mbestCost nso nsi nit nsh nsf nss nrc (nI u.1) (nI jd) mnumber mwhose msize u.2.1), (nrc, iA G 30 u.2.2)])
set_option maxHeartbeats 4000000 in
set_option maxRecDepth 100000 in
theorem m_from12 (l : Launch) (G : GG) (h0 : Nat) (xx : Int32) (nw : Nat) (nk : Nat) (mhasKept : Int32) (nt : Nat) (mtaped : Int32) (nr : Nat) (mrowMany : Int32) (mroundOf : Int32) (mroundFrom : Int32) (mouts : Int32) (nm : Nat) (mfromHour : Int32) (mtoHour : Int32) (ns : Nat) (mfrom : Int32) (mto : Int32) (msort : Int32) (misFault : Int32) (mdeep : Int32) (mcoded : Int32) (mlines : Int32) (nl : Nat) (nc : Nat) (nF : Nat) (np : Nat) (ntr : Nat) (nb : Nat) (mbestCost : Int32) (nso : Nat) (nsi : Nat) (nit : Nat) (nsh : Nat) (nsf : Nat) (nss : Nat) (nrc : Nat) (jr : Nat) (jd : Nat) (mnumber : Int32) (mwhose : Int32) (msize : Int32) (misParted : Int32) (fnrc : Nat → Int32) (hjr : jr ≤ 30) (hjd : jd < 7) : K_m_from12 l G h0 xx nw nk mhasKept nt mtaped nr mrowMany mroundOf mroundFrom mouts nm mfromHour mtoHour ns mfrom mto msort misFault mdeep mcoded mlines nl nc nF np ntr nb mbestCost nso nsi nit nsh nsf nss nrc jr jd mnumber mwhose msize misParted fnrc := by
  refine MI.start (by decide +kernel) (Nat.le_of_ble_eq_true rfl) ?_
  intro p e s m below meth c A ls hC hK hP hD hS hA hl
  refine absQ (fun Q0 hQ0 => ?_)
  have hl : lv_has ls 5 [(0, .ref h0), (1, .int 1), (2, .int 2), (3, .int xx)] := hl
  refine Kan8 hC (fun hx hb hr hml hB hown hlocks hnm => ?_)
  refine lv_iload_n hx hb gX12_bodyFrom_0.1 rfl (lv_at1 hl) ?_
  refine lv_istore (lv' := [(4, .int 1), (0, .ref h0), (1, .int 1), (2, .int 2), (3, .int xx)]) hx hb gX12_bodyFrom_0.2.1 hl (by decide) rfl (fun ls hl => ?_)
  refine lv_iload hx hb gX12_bodyFrom_0.2.2.1 (lv_at0 hl) ?_
  refine lv_iload_n hx hb gX12_bodyFrom_0.2.2.2.1 rfl (lv_at3 hl) ?_
  refine pS hC hK hl (m_hasOwn12 l G) si_X12_360 rfl rfl (Nat.le_of_ble_eq_true rfl) rm_36_1_2 ⟨by first | exact Nat.le_of_ble_eq_true rfl | exact Nat.zero_le _, by first | exact Nat.le_of_ble_eq_true rfl | exact Nat.zero_le _⟩ gX12_bodyFrom_0.2.2.2.2.1 (Keqr ?_)
  refine lv_if_ne (tgt := 22) hx hb gX12_bodyFrom_0.2.2.2.2.2.1 (by decide) (fun c9 => absurd (by decide) c9) (fun _ => ?_)
  refine lv_iload hx hb gX12_bodyFrom_0.2.2.2.2.2.2.1 (lv_at0 hl) ?_
  refine pS hC hK hl (m_above1 l G) si_X12_348 rfl rfl (Nat.le_of_ble_eq_true rfl) rm_36_1_1 ⟨by first | exact Nat.le_of_ble_eq_true rfl | exact Nat.zero_le _, by first | exact Nat.le_of_ble_eq_true rfl | exact Nat.zero_le _⟩ gX12_bodyFrom_0.2.2.2.2.2.2.2.1 (Keqr ?_)
  refine lv_istore (lv' := [(4, .int 0), (0, .ref h0), (1, .int 1), (2, .int 2), (3, .int xx)]) hx hb gX12_bodyFrom_0.2.2.2.2.2.2.2.2.1 hl (by decide) rfl (fun ls hl => ?_)
  refine lv_goto (tgt := 3) hx hb gX12_bodyFrom_0.2.2.2.2.2.2.2.2.2 (by decide) ?_
  refine lv_iload hx hb gX12_bodyFrom_0.2.2.1 (lv_at0 hl) ?_
  refine lv_iload_n hx hb gX12_bodyFrom_0.2.2.2.1 rfl (lv_at3 hl) ?_
  refine pS hC hK hl (m_hasOwn02 l G) si_X12_360 rfl rfl (Nat.le_of_ble_eq_true rfl) rm_36_1_2 ⟨by first | exact Nat.le_of_ble_eq_true rfl | exact Nat.zero_le _, by first | exact Nat.le_of_ble_eq_true rfl | exact Nat.zero_le _⟩ gX12_bodyFrom_0.2.2.2.2.1 (Keqr ?_)
  refine lv_if_ne (tgt := 22) hx hb gX12_bodyFrom_0.2.2.2.2.2.1 (by decide) (fun _ => ?_) (fun c9 => absurd c9 (by decide))
  refine lv_aload_n hx hb gX12_bodyFrom_1.1 rfl (lv_at1 hl) ?_
  refine lv_iload hx hb gX12_bodyFrom_1.2.1 (lv_at0 hl) ?_
  refine lv_iload_n hx hb gX12_bodyFrom_1.2.2.1 rfl (lv_at3 hl) ?_
  refine lv_iload_n hx hb gX12_bodyFrom_1.2.2.2.1 rfl (lv_at4 hl) ?_
  refine iV (wr := []) hC hK hl hP hD hS hA (m_body02 l G h0 xx nw nk mhasKept nt mtaped nr mrowMany mroundOf mroundFrom mouts nm mfromHour mtoHour ns mfrom mto msort misFault mdeep mcoded mlines nl nc nF np ntr nb mbestCost nso nsi nit nsh nsf nss nrc jr jd mnumber mwhose msize misParted fnrc (hjr) (hjd)) si_X12_363 [0, 1] [] sm_0_1 fm_0_1 nd_0_1 rfl rfl (by decide) rfl rfl rfl rfl rfl (Nat.le_of_ble_eq_true rfl) rm_36_27_6 ⟨Nat.le_of_ble_eq_true rfl, Nat.le_of_ble_eq_true rfl⟩ gX12_bodyFrom_1.2.2.2.2.1 (fun r6531 => Ktu3 fun jr16533 ip16534 gtrc6535 => ?_)
  intro H locs hr6531 hP hD hS
  try dsimp only at hr6531
  refine Kpdr (ws := [(h0, oX12 nw nk mhasKept nt mtaped nr mrowMany mroundOf mroundFrom mouts nm mfromHour mtoHour ns mfrom mto msort misFault mdeep mcoded mlines nl nc nF np ntr nb mbestCost nso nsi nit nsh nsf nss nrc (nI jr16533) (nI jd) mnumber mwhose msize ip16534), (nrc, iA G 30 gtrc6535)]) hP hD (fun hP hD => ?_)
  obtain ⟨hr6531, w6536⟩ := hr6531
  refine toQ hQ0 ?_
  exact RI (v := r6531) hC hP hD hS [0, 1] (jr16533, ip16534, gtrc6535) rfl rfl (by decide) (⟨trivial, by omega⟩) rfl gX12_bodyFrom_1.2.2.2.2.2
def K_m_from32 (l : Launch) (G : GG) (h0 : Nat) (xx : Int32) (nw : Nat) (nk : Nat) (mhasKept : Int32) (nt : Nat) (mtaped : Int32) (nr : Nat) (mrowMany : Int32) (mroundOf : Int32) (mroundFrom : Int32) (mouts : Int32) (nm : Nat) (mfromHour : Int32) (mtoHour : Int32) (ns : Nat) (mfrom : Int32) (mto : Int32) (msort : Int32) (misFault : Int32) (mdeep : Int32) (mcoded : Int32) (mlines : Int32) (nl : Nat) (nc : Nat) (nF : Nat) (np : Nat) (ntr : Nat) (nb : Nat) (mbestCost : Int32) (nso : Nat) (nsi : Nat) (nit : Nat) (nsh : Nat) (nsf : Nat) (nss : Nat) (nrc : Nat) (jr : Nat) (jd : Nat) (mnumber : Int32) (mwhose : Int32) (msize : Int32) (misParted : Int32) (fnrc : Nat → Int32) : Prop := MI l G yX12_bodyFrom cX12_bodyFrom 5 (some .int) 36 0 0 [.ref h0, .int 3, .int 2, .int xx] [(h0, oX12 nw nk mhasKept nt mtaped nr mrowMany mroundOf mroundFrom mouts nm mfromHour mtoHour ns mfrom mto msort misFault mdeep mcoded mlines nl nc nF np ntr nb mbestCost nso nsi nit nsh nsf nss nrc (nI jr) (nI jd) mnumber mwhose msize misParted), (nrc, iA G 30 fnrc)] (fun (r : Int32) (u : Nat × Int32 × (Nat → Int32)) => (True) ∧ (u.1 ≤ 30)) (fun u : Nat × Int32 × (Nat → Int32) => [(h0, oX12 nw nk mhasKept nt mtaped nr mrowMany mroundOf mroundFrom mouts nm mfromHour mtoHour ns mfrom mto msort misFault mdeep mcoded mlines nl nc nF np ntr nb mbestCost nso nsi nit nsh nsf nss nrc (nI u.1) (nI jd) mnumber mwhose msize u.2.1), (nrc, iA G 30 u.2.2)])
set_option maxHeartbeats 4000000 in
set_option maxRecDepth 100000 in
theorem m_from32 (l : Launch) (G : GG) (h0 : Nat) (xx : Int32) (nw : Nat) (nk : Nat) (mhasKept : Int32) (nt : Nat) (mtaped : Int32) (nr : Nat) (mrowMany : Int32) (mroundOf : Int32) (mroundFrom : Int32) (mouts : Int32) (nm : Nat) (mfromHour : Int32) (mtoHour : Int32) (ns : Nat) (mfrom : Int32) (mto : Int32) (msort : Int32) (misFault : Int32) (mdeep : Int32) (mcoded : Int32) (mlines : Int32) (nl : Nat) (nc : Nat) (nF : Nat) (np : Nat) (ntr : Nat) (nb : Nat) (mbestCost : Int32) (nso : Nat) (nsi : Nat) (nit : Nat) (nsh : Nat) (nsf : Nat) (nss : Nat) (nrc : Nat) (jr : Nat) (jd : Nat) (mnumber : Int32) (mwhose : Int32) (msize : Int32) (misParted : Int32) (fnrc : Nat → Int32) (hjr : jr ≤ 30) (hjd : jd < 7) : K_m_from32 l G h0 xx nw nk mhasKept nt mtaped nr mrowMany mroundOf mroundFrom mouts nm mfromHour mtoHour ns mfrom mto msort misFault mdeep mcoded mlines nl nc nF np ntr nb mbestCost nso nsi nit nsh nsf nss nrc jr jd mnumber mwhose msize misParted fnrc := by
  refine MI.start (by decide +kernel) (Nat.le_of_ble_eq_true rfl) ?_
  intro p e s m below meth c A ls hC hK hP hD hS hA hl
  refine absQ (fun Q0 hQ0 => ?_)
  have hl : lv_has ls 5 [(0, .ref h0), (1, .int 3), (2, .int 2), (3, .int xx)] := hl
  refine Kan8 hC (fun hx hb hr hml hB hown hlocks hnm => ?_)
  refine lv_iload_n hx hb gX12_bodyFrom_0.1 rfl (lv_at1 hl) ?_
  refine lv_istore (lv' := [(4, .int 3), (0, .ref h0), (1, .int 3), (2, .int 2), (3, .int xx)]) hx hb gX12_bodyFrom_0.2.1 hl (by decide) rfl (fun ls hl => ?_)
  refine lv_iload hx hb gX12_bodyFrom_0.2.2.1 (lv_at0 hl) ?_
  refine lv_iload_n hx hb gX12_bodyFrom_0.2.2.2.1 rfl (lv_at3 hl) ?_
  refine pS hC hK hl (m_hasOwn32 l G) si_X12_360 rfl rfl (Nat.le_of_ble_eq_true rfl) rm_36_1_2 ⟨by first | exact Nat.le_of_ble_eq_true rfl | exact Nat.zero_le _, by first | exact Nat.le_of_ble_eq_true rfl | exact Nat.zero_le _⟩ gX12_bodyFrom_0.2.2.2.2.1 (Keqr ?_)
  refine lv_if_ne (tgt := 22) hx hb gX12_bodyFrom_0.2.2.2.2.2.1 (by decide) (fun c9 => absurd (by decide) c9) (fun _ => ?_)
  refine lv_iload hx hb gX12_bodyFrom_0.2.2.2.2.2.2.1 (lv_at0 hl) ?_
  refine pS hC hK hl (m_above3 l G) si_X12_348 rfl rfl (Nat.le_of_ble_eq_true rfl) rm_36_1_1 ⟨by first | exact Nat.le_of_ble_eq_true rfl | exact Nat.zero_le _, by first | exact Nat.le_of_ble_eq_true rfl | exact Nat.zero_le _⟩ gX12_bodyFrom_0.2.2.2.2.2.2.2.1 (Keqr ?_)
  refine lv_istore (lv' := [(4, .int 1), (0, .ref h0), (1, .int 3), (2, .int 2), (3, .int xx)]) hx hb gX12_bodyFrom_0.2.2.2.2.2.2.2.2.1 hl (by decide) rfl (fun ls hl => ?_)
  refine lv_goto (tgt := 3) hx hb gX12_bodyFrom_0.2.2.2.2.2.2.2.2.2 (by decide) ?_
  refine lv_iload hx hb gX12_bodyFrom_0.2.2.1 (lv_at0 hl) ?_
  refine lv_iload_n hx hb gX12_bodyFrom_0.2.2.2.1 rfl (lv_at3 hl) ?_
  refine pS hC hK hl (m_hasOwn12 l G) si_X12_360 rfl rfl (Nat.le_of_ble_eq_true rfl) rm_36_1_2 ⟨by first | exact Nat.le_of_ble_eq_true rfl | exact Nat.zero_le _, by first | exact Nat.le_of_ble_eq_true rfl | exact Nat.zero_le _⟩ gX12_bodyFrom_0.2.2.2.2.1 (Keqr ?_)
  refine lv_if_ne (tgt := 22) hx hb gX12_bodyFrom_0.2.2.2.2.2.1 (by decide) (fun c9 => absurd (by decide) c9) (fun _ => ?_)
  refine lv_iload hx hb gX12_bodyFrom_0.2.2.2.2.2.2.1 (lv_at0 hl) ?_
  refine pS hC hK hl (m_above1 l G) si_X12_348 rfl rfl (Nat.le_of_ble_eq_true rfl) rm_36_1_1 ⟨by first | exact Nat.le_of_ble_eq_true rfl | exact Nat.zero_le _, by first | exact Nat.le_of_ble_eq_true rfl | exact Nat.zero_le _⟩ gX12_bodyFrom_0.2.2.2.2.2.2.2.1 (Keqr ?_)
  refine lv_istore (lv' := [(4, .int 0), (0, .ref h0), (1, .int 3), (2, .int 2), (3, .int xx)]) hx hb gX12_bodyFrom_0.2.2.2.2.2.2.2.2.1 hl (by decide) rfl (fun ls hl => ?_)
  refine lv_goto (tgt := 3) hx hb gX12_bodyFrom_0.2.2.2.2.2.2.2.2.2 (by decide) ?_
  refine lv_iload hx hb gX12_bodyFrom_0.2.2.1 (lv_at0 hl) ?_
  refine lv_iload_n hx hb gX12_bodyFrom_0.2.2.2.1 rfl (lv_at3 hl) ?_
  refine pS hC hK hl (m_hasOwn02 l G) si_X12_360 rfl rfl (Nat.le_of_ble_eq_true rfl) rm_36_1_2 ⟨by first | exact Nat.le_of_ble_eq_true rfl | exact Nat.zero_le _, by first | exact Nat.le_of_ble_eq_true rfl | exact Nat.zero_le _⟩ gX12_bodyFrom_0.2.2.2.2.1 (Keqr ?_)
  refine lv_if_ne (tgt := 22) hx hb gX12_bodyFrom_0.2.2.2.2.2.1 (by decide) (fun _ => ?_) (fun c9 => absurd c9 (by decide))
  refine lv_aload_n hx hb gX12_bodyFrom_1.1 rfl (lv_at1 hl) ?_
  refine lv_iload hx hb gX12_bodyFrom_1.2.1 (lv_at0 hl) ?_
  refine lv_iload_n hx hb gX12_bodyFrom_1.2.2.1 rfl (lv_at3 hl) ?_
  refine lv_iload_n hx hb gX12_bodyFrom_1.2.2.2.1 rfl (lv_at4 hl) ?_
  refine iV (wr := []) hC hK hl hP hD hS hA (m_body02 l G h0 xx nw nk mhasKept nt mtaped nr mrowMany mroundOf mroundFrom mouts nm mfromHour mtoHour ns mfrom mto msort misFault mdeep mcoded mlines nl nc nF np ntr nb mbestCost nso nsi nit nsh nsf nss nrc jr jd mnumber mwhose msize misParted fnrc (hjr) (hjd)) si_X12_363 [0, 1] [] sm_0_1 fm_0_1 nd_0_1 rfl rfl (by decide) rfl rfl rfl rfl rfl (Nat.le_of_ble_eq_true rfl) rm_36_27_6 ⟨Nat.le_of_ble_eq_true rfl, Nat.le_of_ble_eq_true rfl⟩ gX12_bodyFrom_1.2.2.2.2.1 (fun r6547 => Ktu3 fun jr16549 ip16550 gtrc6551 => ?_)
  intro H locs hr6547 hP hD hS
  try dsimp only at hr6547
  refine Kpdr (ws := [(h0, oX12 nw nk mhasKept nt mtaped nr mrowMany mroundOf mroundFrom mouts nm mfromHour mtoHour ns mfrom mto msort misFault mdeep mcoded mlines nl nc nF np ntr nb mbestCost nso nsi nit nsh nsf nss nrc (nI jr16549) (nI jd) mnumber mwhose msize ip16550), (nrc, iA G 30 gtrc6551)]) hP hD (fun hP hD => ?_)
  obtain ⟨hr6547, w6552⟩ := hr6547
  refine toQ hQ0 ?_
  exact RI (v := r6547) hC hP hD hS [0, 1] (jr16549, ip16550, gtrc6551) rfl rfl (by decide) (⟨trivial, by omega⟩) rfl gX12_bodyFrom_1.2.2.2.2.2
def K_m_from62 (l : Launch) (G : GG) (h0 : Nat) (xx : Int32) (nw : Nat) (nk : Nat) (mhasKept : Int32) (nt : Nat) (mtaped : Int32) (nr : Nat) (mrowMany : Int32) (mroundOf : Int32) (mroundFrom : Int32) (mouts : Int32) (nm : Nat) (mfromHour : Int32) (mtoHour : Int32) (ns : Nat) (mfrom : Int32) (mto : Int32) (msort : Int32) (misFault : Int32) (mdeep : Int32) (mcoded : Int32) (mlines : Int32) (nl : Nat) (nc : Nat) (nF : Nat) (np : Nat) (ntr : Nat) (nb : Nat) (mbestCost : Int32) (nso : Nat) (nsi : Nat) (nit : Nat) (nsh : Nat) (nsf : Nat) (nss : Nat) (nrc : Nat) (jr : Nat) (jd : Nat) (mnumber : Int32) (mwhose : Int32) (msize : Int32) (misParted : Int32) (fnrc : Nat → Int32) : Prop := MI l G yX12_bodyFrom cX12_bodyFrom 5 (some .int) 36 0 0 [.ref h0, .int 6, .int 2, .int xx] [(h0, oX12 nw nk mhasKept nt mtaped nr mrowMany mroundOf mroundFrom mouts nm mfromHour mtoHour ns mfrom mto msort misFault mdeep mcoded mlines nl nc nF np ntr nb mbestCost nso nsi nit nsh nsf nss nrc (nI jr) (nI jd) mnumber mwhose msize misParted), (nrc, iA G 30 fnrc)] (fun (r : Int32) (u : Nat × Int32 × (Nat → Int32)) => (True) ∧ (u.1 ≤ 30)) (fun u : Nat × Int32 × (Nat → Int32) => [(h0, oX12 nw nk mhasKept nt mtaped nr mrowMany mroundOf mroundFrom mouts nm mfromHour mtoHour ns mfrom mto msort misFault mdeep mcoded mlines nl nc nF np ntr nb mbestCost nso nsi nit nsh nsf nss nrc (nI u.1) (nI jd) mnumber mwhose msize u.2.1), (nrc, iA G 30 u.2.2)])
set_option maxHeartbeats 4000000 in
set_option maxRecDepth 100000 in
theorem m_from62 (l : Launch) (G : GG) (h0 : Nat) (xx : Int32) (nw : Nat) (nk : Nat) (mhasKept : Int32) (nt : Nat) (mtaped : Int32) (nr : Nat) (mrowMany : Int32) (mroundOf : Int32) (mroundFrom : Int32) (mouts : Int32) (nm : Nat) (mfromHour : Int32) (mtoHour : Int32) (ns : Nat) (mfrom : Int32) (mto : Int32) (msort : Int32) (misFault : Int32) (mdeep : Int32) (mcoded : Int32) (mlines : Int32) (nl : Nat) (nc : Nat) (nF : Nat) (np : Nat) (ntr : Nat) (nb : Nat) (mbestCost : Int32) (nso : Nat) (nsi : Nat) (nit : Nat) (nsh : Nat) (nsf : Nat) (nss : Nat) (nrc : Nat) (jr : Nat) (jd : Nat) (mnumber : Int32) (mwhose : Int32) (msize : Int32) (misParted : Int32) (fnrc : Nat → Int32) (hjr : jr ≤ 30) (hjd : jd < 7) : K_m_from62 l G h0 xx nw nk mhasKept nt mtaped nr mrowMany mroundOf mroundFrom mouts nm mfromHour mtoHour ns mfrom mto msort misFault mdeep mcoded mlines nl nc nF np ntr nb mbestCost nso nsi nit nsh nsf nss nrc jr jd mnumber mwhose msize misParted fnrc := by
  refine MI.start (by decide +kernel) (Nat.le_of_ble_eq_true rfl) ?_
  intro p e s m below meth c A ls hC hK hP hD hS hA hl
  refine absQ (fun Q0 hQ0 => ?_)
  have hl : lv_has ls 5 [(0, .ref h0), (1, .int 6), (2, .int 2), (3, .int xx)] := hl
  refine Kan8 hC (fun hx hb hr hml hB hown hlocks hnm => ?_)
  refine lv_iload_n hx hb gX12_bodyFrom_0.1 rfl (lv_at1 hl) ?_
  refine lv_istore (lv' := [(4, .int 6), (0, .ref h0), (1, .int 6), (2, .int 2), (3, .int xx)]) hx hb gX12_bodyFrom_0.2.1 hl (by decide) rfl (fun ls hl => ?_)
  refine lv_iload hx hb gX12_bodyFrom_0.2.2.1 (lv_at0 hl) ?_
  refine lv_iload_n hx hb gX12_bodyFrom_0.2.2.2.1 rfl (lv_at3 hl) ?_
  refine pS hC hK hl (m_hasOwn62 l G) si_X12_360 rfl rfl (Nat.le_of_ble_eq_true rfl) rm_36_1_2 ⟨by first | exact Nat.le_of_ble_eq_true rfl | exact Nat.zero_le _, by first | exact Nat.le_of_ble_eq_true rfl | exact Nat.zero_le _⟩ gX12_bodyFrom_0.2.2.2.2.1 (Keqr ?_)
  refine lv_if_ne (tgt := 22) hx hb gX12_bodyFrom_0.2.2.2.2.2.1 (by decide) (fun c9 => absurd (by decide) c9) (fun _ => ?_)
  refine lv_iload hx hb gX12_bodyFrom_0.2.2.2.2.2.2.1 (lv_at0 hl) ?_
  refine pS hC hK hl (m_above6 l G) si_X12_348 rfl rfl (Nat.le_of_ble_eq_true rfl) rm_36_1_1 ⟨by first | exact Nat.le_of_ble_eq_true rfl | exact Nat.zero_le _, by first | exact Nat.le_of_ble_eq_true rfl | exact Nat.zero_le _⟩ gX12_bodyFrom_0.2.2.2.2.2.2.2.1 (Keqr ?_)
  refine lv_istore (lv' := [(4, .int 0), (0, .ref h0), (1, .int 6), (2, .int 2), (3, .int xx)]) hx hb gX12_bodyFrom_0.2.2.2.2.2.2.2.2.1 hl (by decide) rfl (fun ls hl => ?_)
  refine lv_goto (tgt := 3) hx hb gX12_bodyFrom_0.2.2.2.2.2.2.2.2.2 (by decide) ?_
  refine lv_iload hx hb gX12_bodyFrom_0.2.2.1 (lv_at0 hl) ?_
  refine lv_iload_n hx hb gX12_bodyFrom_0.2.2.2.1 rfl (lv_at3 hl) ?_
  refine pS hC hK hl (m_hasOwn02 l G) si_X12_360 rfl rfl (Nat.le_of_ble_eq_true rfl) rm_36_1_2 ⟨by first | exact Nat.le_of_ble_eq_true rfl | exact Nat.zero_le _, by first | exact Nat.le_of_ble_eq_true rfl | exact Nat.zero_le _⟩ gX12_bodyFrom_0.2.2.2.2.1 (Keqr ?_)
  refine lv_if_ne (tgt := 22) hx hb gX12_bodyFrom_0.2.2.2.2.2.1 (by decide) (fun _ => ?_) (fun c9 => absurd c9 (by decide))
  refine lv_aload_n hx hb gX12_bodyFrom_1.1 rfl (lv_at1 hl) ?_
  refine lv_iload hx hb gX12_bodyFrom_1.2.1 (lv_at0 hl) ?_
  refine lv_iload_n hx hb gX12_bodyFrom_1.2.2.1 rfl (lv_at3 hl) ?_
  refine lv_iload_n hx hb gX12_bodyFrom_1.2.2.2.1 rfl (lv_at4 hl) ?_
  refine iV (wr := []) hC hK hl hP hD hS hA (m_body02 l G h0 xx nw nk mhasKept nt mtaped nr mrowMany mroundOf mroundFrom mouts nm mfromHour mtoHour ns mfrom mto msort misFault mdeep mcoded mlines nl nc nF np ntr nb mbestCost nso nsi nit nsh nsf nss nrc jr jd mnumber mwhose msize misParted fnrc (hjr) (hjd)) si_X12_363 [0, 1] [] sm_0_1 fm_0_1 nd_0_1 rfl rfl (by decide) rfl rfl rfl rfl rfl (Nat.le_of_ble_eq_true rfl) rm_36_27_6 ⟨Nat.le_of_ble_eq_true rfl, Nat.le_of_ble_eq_true rfl⟩ gX12_bodyFrom_1.2.2.2.2.1 (fun r6559 => Ktu3 fun jr16561 ip16562 gtrc6563 => ?_)
  intro H locs hr6559 hP hD hS
  try dsimp only at hr6559
  refine Kpdr (ws := [(h0, oX12 nw nk mhasKept nt mtaped nr mrowMany mroundOf mroundFrom mouts nm mfromHour mtoHour ns mfrom mto msort misFault mdeep mcoded mlines nl nc nF np ntr nb mbestCost nso nsi nit nsh nsf nss nrc (nI jr16561) (nI jd) mnumber mwhose msize ip16562), (nrc, iA G 30 gtrc6563)]) hP hD (fun hP hD => ?_)
  obtain ⟨hr6559, w6564⟩ := hr6559
  refine toQ hQ0 ?_
  exact RI (v := r6559) hC hP hD hS [0, 1] (jr16561, ip16562, gtrc6563) rfl rfl (by decide) (⟨trivial, by omega⟩) rfl gX12_bodyFrom_1.2.2.2.2.2
def K_m_dealt2 (l : Launch) (G : GG) (h0 : Nat) (xx : Int32) (nw : Nat) (nk : Nat) (mhasKept : Int32) (nt : Nat) (mtaped : Int32) (nr : Nat) (mrowMany : Int32) (mroundOf : Int32) (mroundFrom : Int32) (mouts : Int32) (nm : Nat) (mfromHour : Int32) (mtoHour : Int32) (ns : Nat) (mfrom : Int32) (mto : Int32) (msort : Int32) (misFault : Int32) (mdeep : Int32) (mcoded : Int32) (mlines : Int32) (nl : Nat) (nc : Nat) (nF : Nat) (np : Nat) (ntr : Nat) (nb : Nat) (mbestCost : Int32) (nso : Nat) (nsi : Nat) (nit : Nat) (nsh : Nat) (nsf : Nat) (nss : Nat) (nrc : Nat) (jr : Nat) (jd : Nat) (mnumber : Int32) (mwhose : Int32) (msize : Int32) (misParted : Int32) (fnrc : Nat → Int32) : Prop := MI l G yX12_dealt cX12_dealt 3 (some .int) 38 0 0 [.ref h0, .int 2, .int xx] [(h0, oX12 nw nk mhasKept nt mtaped nr mrowMany mroundOf mroundFrom mouts nm mfromHour mtoHour ns mfrom mto msort misFault mdeep mcoded mlines nl nc nF np ntr nb mbestCost nso nsi nit nsh nsf nss nrc (nI jr) (nI jd) mnumber mwhose msize misParted), (nrc, iA G 30 fnrc)] (fun (r : Int32) (u : Nat × Int32 × (Nat → Int32)) => (True) ∧ (u.1 ≤ 30)) (fun u : Nat × Int32 × (Nat → Int32) => [(h0, oX12 nw nk mhasKept nt mtaped nr mrowMany mroundOf mroundFrom mouts nm mfromHour mtoHour ns mfrom mto msort misFault mdeep mcoded mlines nl nc nF np ntr nb mbestCost nso nsi nit nsh nsf nss nrc (nI u.1) (nI jd) mnumber mwhose msize u.2.1), (nrc, iA G 30 u.2.2)])
set_option maxHeartbeats 4000000 in
set_option maxRecDepth 100000 in
theorem m_dealt2 (l : Launch) (G : GG) (h0 : Nat) (xx : Int32) (nw : Nat) (nk : Nat) (mhasKept : Int32) (nt : Nat) (mtaped : Int32) (nr : Nat) (mrowMany : Int32) (mroundOf : Int32) (mroundFrom : Int32) (mouts : Int32) (nm : Nat) (mfromHour : Int32) (mtoHour : Int32) (ns : Nat) (mfrom : Int32) (mto : Int32) (msort : Int32) (misFault : Int32) (mdeep : Int32) (mcoded : Int32) (mlines : Int32) (nl : Nat) (nc : Nat) (nF : Nat) (np : Nat) (ntr : Nat) (nb : Nat) (mbestCost : Int32) (nso : Nat) (nsi : Nat) (nit : Nat) (nsh : Nat) (nsf : Nat) (nss : Nat) (nrc : Nat) (jr : Nat) (jd : Nat) (mnumber : Int32) (mwhose : Int32) (msize : Int32) (misParted : Int32) (fnrc : Nat → Int32) (hjr : jr ≤ 30) (hjd : jd < 7) : K_m_dealt2 l G h0 xx nw nk mhasKept nt mtaped nr mrowMany mroundOf mroundFrom mouts nm mfromHour mtoHour ns mfrom mto msort misFault mdeep mcoded mlines nl nc nF np ntr nb mbestCost nso nsi nit nsh nsf nss nrc jr jd mnumber mwhose msize misParted fnrc := by
  refine MI.start (by decide +kernel) (Nat.le_of_ble_eq_true rfl) ?_
  intro p e s m below meth c A ls hC hK hP hD hS hA hl
  refine absQ (fun Q0 hQ0 => ?_)
  have hl : lv_has ls 3 [(0, .ref h0), (1, .int 2), (2, .int xx)] := hl
  refine Kan8 hC (fun hx hb hr hml hB hown hlocks hnm => ?_)
  refine lv_aload_n hx hb gX12_dealt_0.1 rfl (lv_at0 hl) ?_
  refine lv_aload_n hx hb gX12_dealt_0.2.1 rfl (lv_at0 hl) ?_
  refine gf_X12_354 hC rfl hK hP 0 rfl rfl gX12_dealt_0.2.2.1 ?_
  refine lv_iload_n hx hb gX12_dealt_0.2.2.2.1 rfl (lv_at1 hl) ?_
  refine lv_iload_n hx hb gX12_dealt_0.2.2.2.2.1 rfl (lv_at2 hl) ?_
  rcases (show jd = 0 ∨ jd = 1 ∨ jd = 2 ∨ jd = 3 ∨ jd = 4 ∨ jd = 5 ∨ jd = 6 by omega) with rfl | rfl | rfl | rfl | rfl | rfl | rfl
  · refine iV (wr := []) hC hK hl hP hD hS hA (m_from02 l G h0 xx nw nk mhasKept nt mtaped nr mrowMany mroundOf mroundFrom mouts nm mfromHour mtoHour ns mfrom mto msort misFault mdeep mcoded mlines nl nc nF np ntr nb mbestCost nso nsi nit nsh nsf nss nrc jr 0 mnumber mwhose msize misParted fnrc (hjr) (hjd)) si_X12_357 [0, 1] [] sm_0_1 fm_0_1 nd_0_1 rfl rfl (by decide) rfl rfl rfl rfl rfl (Nat.le_of_ble_eq_true rfl) rm_38_28_5 ⟨Nat.le_of_ble_eq_true rfl, Nat.le_of_ble_eq_true rfl⟩ gX12_dealt_0.2.2.2.2.2.1 (fun r6565 => Ktu3 fun jr16567 ip16568 gtrc6569 => ?_)
    intro H locs hr6565 hP hD hS
    try dsimp only at hr6565
    refine Kpdr (ws := [(h0, oX12 nw nk mhasKept nt mtaped nr mrowMany mroundOf mroundFrom mouts nm mfromHour mtoHour ns mfrom mto msort misFault mdeep mcoded mlines nl nc nF np ntr nb mbestCost nso nsi nit nsh nsf nss nrc (nI jr16567) 0 mnumber mwhose msize ip16568), (nrc, iA G 30 gtrc6569)]) hP hD (fun hP hD => ?_)
    obtain ⟨hr6565, w6570⟩ := hr6565
    refine toQ hQ0 ?_
    exact RI (v := r6565) hC hP hD hS [0, 1] (jr16567, ip16568, gtrc6569) rfl rfl (by decide) (⟨trivial, by omega⟩) rfl gX12_dealt_0.2.2.2.2.2.2
  · refine iV (wr := []) hC hK hl hP hD hS hA (m_from12 l G h0 xx nw nk mhasKept nt mtaped nr mrowMany mroundOf mroundFrom mouts nm mfromHour mtoHour ns mfrom mto msort misFault mdeep mcoded mlines nl nc nF np ntr nb mbestCost nso nsi nit nsh nsf nss nrc jr 1 mnumber mwhose msize misParted fnrc (hjr) (hjd)) si_X12_357 [0, 1] [] sm_0_1 fm_0_1 nd_0_1 rfl rfl (by decide) rfl rfl rfl rfl rfl (Nat.le_of_ble_eq_true rfl) rm_38_36_5 ⟨Nat.le_of_ble_eq_true rfl, Nat.le_of_ble_eq_true rfl⟩ gX12_dealt_0.2.2.2.2.2.1 (fun r6571 => Ktu3 fun jr16573 ip16574 gtrc6575 => ?_)
    intro H locs hr6571 hP hD hS
    try dsimp only at hr6571
    refine Kpdr (ws := [(h0, oX12 nw nk mhasKept nt mtaped nr mrowMany mroundOf mroundFrom mouts nm mfromHour mtoHour ns mfrom mto msort misFault mdeep mcoded mlines nl nc nF np ntr nb mbestCost nso nsi nit nsh nsf nss nrc (nI jr16573) 1 mnumber mwhose msize ip16574), (nrc, iA G 30 gtrc6575)]) hP hD (fun hP hD => ?_)
    obtain ⟨hr6571, w6576⟩ := hr6571
    refine toQ hQ0 ?_
    exact RI (v := r6571) hC hP hD hS [0, 1] (jr16573, ip16574, gtrc6575) rfl rfl (by decide) (⟨trivial, by omega⟩) rfl gX12_dealt_0.2.2.2.2.2.2
  · refine iV (wr := []) hC hK hl hP hD hS hA (m_from22 l G h0 xx nw nk mhasKept nt mtaped nr mrowMany mroundOf mroundFrom mouts nm mfromHour mtoHour ns mfrom mto msort misFault mdeep mcoded mlines nl nc nF np ntr nb mbestCost nso nsi nit nsh nsf nss nrc jr 2 mnumber mwhose msize misParted fnrc (hjr) (hjd)) si_X12_357 [0, 1] [] sm_0_1 fm_0_1 nd_0_1 rfl rfl (by decide) rfl rfl rfl rfl rfl (Nat.le_of_ble_eq_true rfl) rm_38_30_5 ⟨Nat.le_of_ble_eq_true rfl, Nat.le_of_ble_eq_true rfl⟩ gX12_dealt_0.2.2.2.2.2.1 (fun r6577 => Ktu3 fun jr16579 ip16580 gtrc6581 => ?_)
    intro H locs hr6577 hP hD hS
    try dsimp only at hr6577
    refine Kpdr (ws := [(h0, oX12 nw nk mhasKept nt mtaped nr mrowMany mroundOf mroundFrom mouts nm mfromHour mtoHour ns mfrom mto msort misFault mdeep mcoded mlines nl nc nF np ntr nb mbestCost nso nsi nit nsh nsf nss nrc (nI jr16579) 2 mnumber mwhose msize ip16580), (nrc, iA G 30 gtrc6581)]) hP hD (fun hP hD => ?_)
    obtain ⟨hr6577, w6582⟩ := hr6577
    refine toQ hQ0 ?_
    exact RI (v := r6577) hC hP hD hS [0, 1] (jr16579, ip16580, gtrc6581) rfl rfl (by decide) (⟨trivial, by omega⟩) rfl gX12_dealt_0.2.2.2.2.2.2
  · refine iV (wr := []) hC hK hl hP hD hS hA (m_from32 l G h0 xx nw nk mhasKept nt mtaped nr mrowMany mroundOf mroundFrom mouts nm mfromHour mtoHour ns mfrom mto msort misFault mdeep mcoded mlines nl nc nF np ntr nb mbestCost nso nsi nit nsh nsf nss nrc jr 3 mnumber mwhose msize misParted fnrc (hjr) (hjd)) si_X12_357 [0, 1] [] sm_0_1 fm_0_1 nd_0_1 rfl rfl (by decide) rfl rfl rfl rfl rfl (Nat.le_of_ble_eq_true rfl) rm_38_36_5 ⟨Nat.le_of_ble_eq_true rfl, Nat.le_of_ble_eq_true rfl⟩ gX12_dealt_0.2.2.2.2.2.1 (fun r6583 => Ktu3 fun jr16585 ip16586 gtrc6587 => ?_)
    intro H locs hr6583 hP hD hS
    try dsimp only at hr6583
    refine Kpdr (ws := [(h0, oX12 nw nk mhasKept nt mtaped nr mrowMany mroundOf mroundFrom mouts nm mfromHour mtoHour ns mfrom mto msort misFault mdeep mcoded mlines nl nc nF np ntr nb mbestCost nso nsi nit nsh nsf nss nrc (nI jr16585) 3 mnumber mwhose msize ip16586), (nrc, iA G 30 gtrc6587)]) hP hD (fun hP hD => ?_)
    obtain ⟨hr6583, w6588⟩ := hr6583
    refine toQ hQ0 ?_
    exact RI (v := r6583) hC hP hD hS [0, 1] (jr16585, ip16586, gtrc6587) rfl rfl (by decide) (⟨trivial, by omega⟩) rfl gX12_dealt_0.2.2.2.2.2.2
  · refine iV (wr := []) hC hK hl hP hD hS hA (m_from42 l G h0 xx nw nk mhasKept nt mtaped nr mrowMany mroundOf mroundFrom mouts nm mfromHour mtoHour ns mfrom mto msort misFault mdeep mcoded mlines nl nc nF np ntr nb mbestCost nso nsi nit nsh nsf nss nrc jr 4 mnumber mwhose msize misParted fnrc (hjr) (hjd)) si_X12_357 [0, 1] [] sm_0_1 fm_0_1 nd_0_1 rfl rfl (by decide) rfl rfl rfl rfl rfl (Nat.le_of_ble_eq_true rfl) rm_38_32_5 ⟨Nat.le_of_ble_eq_true rfl, Nat.le_of_ble_eq_true rfl⟩ gX12_dealt_0.2.2.2.2.2.1 (fun r6589 => Ktu3 fun jr16591 ip16592 gtrc6593 => ?_)
    intro H locs hr6589 hP hD hS
    try dsimp only at hr6589
    refine Kpdr (ws := [(h0, oX12 nw nk mhasKept nt mtaped nr mrowMany mroundOf mroundFrom mouts nm mfromHour mtoHour ns mfrom mto msort misFault mdeep mcoded mlines nl nc nF np ntr nb mbestCost nso nsi nit nsh nsf nss nrc (nI jr16591) 4 mnumber mwhose msize ip16592), (nrc, iA G 30 gtrc6593)]) hP hD (fun hP hD => ?_)
    obtain ⟨hr6589, w6594⟩ := hr6589
    refine toQ hQ0 ?_
    exact RI (v := r6589) hC hP hD hS [0, 1] (jr16591, ip16592, gtrc6593) rfl rfl (by decide) (⟨trivial, by omega⟩) rfl gX12_dealt_0.2.2.2.2.2.2
  · refine iV (wr := []) hC hK hl hP hD hS hA (m_from52 l G h0 xx nw nk mhasKept nt mtaped nr mrowMany mroundOf mroundFrom mouts nm mfromHour mtoHour ns mfrom mto msort misFault mdeep mcoded mlines nl nc nF np ntr nb mbestCost nso nsi nit nsh nsf nss nrc jr 5 mnumber mwhose msize misParted fnrc (hjr) (hjd)) si_X12_357 [0, 1] [] sm_0_1 fm_0_1 nd_0_1 rfl rfl (by decide) rfl rfl rfl rfl rfl (Nat.le_of_ble_eq_true rfl) rm_38_34_5 ⟨Nat.le_of_ble_eq_true rfl, Nat.le_of_ble_eq_true rfl⟩ gX12_dealt_0.2.2.2.2.2.1 (fun r6595 => Ktu3 fun jr16597 ip16598 gtrc6599 => ?_)
    intro H locs hr6595 hP hD hS
    try dsimp only at hr6595
    refine Kpdr (ws := [(h0, oX12 nw nk mhasKept nt mtaped nr mrowMany mroundOf mroundFrom mouts nm mfromHour mtoHour ns mfrom mto msort misFault mdeep mcoded mlines nl nc nF np ntr nb mbestCost nso nsi nit nsh nsf nss nrc (nI jr16597) 5 mnumber mwhose msize ip16598), (nrc, iA G 30 gtrc6599)]) hP hD (fun hP hD => ?_)
    obtain ⟨hr6595, w6600⟩ := hr6595
    refine toQ hQ0 ?_
    exact RI (v := r6595) hC hP hD hS [0, 1] (jr16597, ip16598, gtrc6599) rfl rfl (by decide) (⟨trivial, by omega⟩) rfl gX12_dealt_0.2.2.2.2.2.2
  · refine iV (wr := []) hC hK hl hP hD hS hA (m_from62 l G h0 xx nw nk mhasKept nt mtaped nr mrowMany mroundOf mroundFrom mouts nm mfromHour mtoHour ns mfrom mto msort misFault mdeep mcoded mlines nl nc nF np ntr nb mbestCost nso nsi nit nsh nsf nss nrc jr 6 mnumber mwhose msize misParted fnrc (hjr) (hjd)) si_X12_357 [0, 1] [] sm_0_1 fm_0_1 nd_0_1 rfl rfl (by decide) rfl rfl rfl rfl rfl (Nat.le_of_ble_eq_true rfl) rm_38_36_5 ⟨Nat.le_of_ble_eq_true rfl, Nat.le_of_ble_eq_true rfl⟩ gX12_dealt_0.2.2.2.2.2.1 (fun r6601 => Ktu3 fun jr16603 ip16604 gtrc6605 => ?_)
    intro H locs hr6601 hP hD hS
    try dsimp only at hr6601
    refine Kpdr (ws := [(h0, oX12 nw nk mhasKept nt mtaped nr mrowMany mroundOf mroundFrom mouts nm mfromHour mtoHour ns mfrom mto msort misFault mdeep mcoded mlines nl nc nF np ntr nb mbestCost nso nsi nit nsh nsf nss nrc (nI jr16603) 6 mnumber mwhose msize ip16604), (nrc, iA G 30 gtrc6605)]) hP hD (fun hP hD => ?_)
    obtain ⟨hr6601, w6606⟩ := hr6601
    refine toQ hQ0 ?_
    exact RI (v := r6601) hC hP hD hS [0, 1] (jr16603, ip16604, gtrc6605) rfl rfl (by decide) (⟨trivial, by omega⟩) rfl gX12_dealt_0.2.2.2.2.2.2
def K_m_body03 (l : Launch) (G : GG) (h0 : Nat) (xx : Int32) (nw : Nat) (nk : Nat) (mhasKept : Int32) (nt : Nat) (mtaped : Int32) (nr : Nat) (mrowMany : Int32) (mroundOf : Int32) (mroundFrom : Int32) (mouts : Int32) (nm : Nat) (mfromHour : Int32) (mtoHour : Int32) (ns : Nat) (mfrom : Int32) (mto : Int32) (msort : Int32) (misFault : Int32) (mdeep : Int32) (mcoded : Int32) (mlines : Int32) (nl : Nat) (nc : Nat) (nF : Nat) (np : Nat) (ntr : Nat) (nb : Nat) (mbestCost : Int32) (nso : Nat) (nsi : Nat) (nit : Nat) (nsh : Nat) (nsf : Nat) (nss : Nat) (nrc : Nat) (jr : Nat) (jd : Nat) (mnumber : Int32) (mwhose : Int32) (msize : Int32) (misParted : Int32) (fnrc : Nat → Int32) : Prop := MI l G yX12_body cX12_body 6 (some .int) 39 0 0 [.ref h0, .int 0, .int 3, .int xx] [(h0, oX12 nw nk mhasKept nt mtaped nr mrowMany mroundOf mroundFrom mouts nm mfromHour mtoHour ns mfrom mto msort misFault mdeep mcoded mlines nl nc nF np ntr nb mbestCost nso nsi nit nsh nsf nss nrc (nI jr) (nI jd) mnumber mwhose msize misParted), (nrc, iA G 30 fnrc)] (fun (r : Int32) (u : Nat × Int32 × (Nat → Int32)) => (True) ∧ (u.1 ≤ 30)) (fun u : Nat × Int32 × (Nat → Int32) => [(h0, oX12 nw nk mhasKept nt mtaped nr mrowMany mroundOf mroundFrom mouts nm mfromHour mtoHour ns mfrom mto msort misFault mdeep mcoded mlines nl nc nF np ntr nb mbestCost nso nsi nit nsh nsf nss nrc (nI u.1) (nI jd) mnumber mwhose msize u.2.1), (nrc, iA G 30 u.2.2)])
set_option maxHeartbeats 4000000 in
set_option maxRecDepth 100000 in
theorem m_body03 (l : Launch) (G : GG) (h0 : Nat) (xx : Int32) (nw : Nat) (nk : Nat) (mhasKept : Int32) (nt : Nat) (mtaped : Int32) (nr : Nat) (mrowMany : Int32) (mroundOf : Int32) (mroundFrom : Int32) (mouts : Int32) (nm : Nat) (mfromHour : Int32) (mtoHour : Int32) (ns : Nat) (mfrom : Int32) (mto : Int32) (msort : Int32) (misFault : Int32) (mdeep : Int32) (mcoded : Int32) (mlines : Int32) (nl : Nat) (nc : Nat) (nF : Nat) (np : Nat) (ntr : Nat) (nb : Nat) (mbestCost : Int32) (nso : Nat) (nsi : Nat) (nit : Nat) (nsh : Nat) (nsf : Nat) (nss : Nat) (nrc : Nat) (jr : Nat) (jd : Nat) (mnumber : Int32) (mwhose : Int32) (msize : Int32) (misParted : Int32) (fnrc : Nat → Int32) (hjr : jr ≤ 30) (hjd : jd < 7) : K_m_body03 l G h0 xx nw nk mhasKept nt mtaped nr mrowMany mroundOf mroundFrom mouts nm mfromHour mtoHour ns mfrom mto msort misFault mdeep mcoded mlines nl nc nF np ntr nb mbestCost nso nsi nit nsh nsf nss nrc jr jd mnumber mwhose msize misParted fnrc := by
  refine MI.start (by decide +kernel) (Nat.le_of_ble_eq_true rfl) ?_
  intro p e s m below meth c A ls hC hK hP hD hS hA hl
  refine absQ (fun Q0 hQ0 => ?_)
  have hl : lv_has ls 6 [(0, .ref h0), (1, .int 0), (2, .int 3), (3, .int xx)] := hl
  refine Kan8 hC (fun hx hb hr hml hB hown hlocks hnm => ?_)
  refine lv_iconst (v := 4) hx hb gX12_body_0.1 (by decide) ?_
  refine lv_iload_n hx hb gX12_body_0.2.1 rfl (lv_at1 hl) ?_
  refine lv_imul hx hb gX12_body_0.2.2.1 ?_
  refine eqi (x1 := 0) (by decide) ?_
  refine lv_iload_n hx hb gX12_body_0.2.2.2.1 rfl (lv_at2 hl) ?_
  refine lv_iadd hx hb gX12_body_0.2.2.2.2.1 ?_
  refine eqi (x1 := 3) (by decide) ?_
  refine lv_tableIn (tgt := 158) hx hb gX12_body_0.2.2.2.2.2.1 (by decide) (by decide) rfl (by decide) ?_
  refine lv_aload_n hx hb gX12_body_3.2.2.2.2.2.1 rfl (lv_at0 hl) ?_
  refine lv_bipush (v := 13) hx hb gX12_body_3.2.2.2.2.2.2.1 (by decide) ?_
  refine vV (wr := []) hC hK hl hP hD hS hA (m_began l G h0 13 nw nk mhasKept nt mtaped nr mrowMany mroundOf mroundFrom mouts nm mfromHour mtoHour ns mfrom mto msort misFault mdeep mcoded mlines nl nc nF np ntr nb mbestCost nso nsi nit nsh nsf nss nrc jr (nI jd) mnumber mwhose msize misParted fnrc (hjr)) si_X12_366 [0, 1] [] sm_0_1 fm_0_1 nd_0_1 rfl rfl (by decide) rfl rfl rfl rfl rfl (Nat.le_of_ble_eq_true rfl) rm_39_1_2 ⟨Nat.le_of_ble_eq_true rfl, Nat.le_of_ble_eq_true rfl⟩ gX12_body_3.2.2.2.2.2.2.2.1 (Ktu2 fun jr16609 gtrc6610 => ?_)
  intro H locs hr6607 hP hD hS
  try dsimp only at hr6607
  refine Kpdr (ws := [(h0, oX12 nw nk mhasKept nt mtaped nr mrowMany mroundOf mroundFrom mouts nm mfromHour mtoHour ns mfrom mto msort misFault mdeep mcoded mlines nl nc nF np ntr nb mbestCost nso nsi nit nsh nsf nss nrc (nI jr16609) (nI jd) mnumber mwhose msize misParted), (nrc, iA G 30 gtrc6610)]) hP hD (fun hP hD => ?_)
  have w6611 := hr6607
  refine lv_aload_n hx hb gX12_body_3.2.2.2.2.2.2.2.2.1 rfl (lv_at0 hl) ?_
  refine lv_aload_n hx hb gX12_body_3.2.2.2.2.2.2.2.2.2 rfl (lv_at0 hl) ?_
  refine gf_X12_375 hC rfl hK hP 0 rfl rfl gX12_body_4.1 ?_
  refine lv_aload_n hx hb gX12_body_4.2.1 rfl (lv_at0 hl) ?_
  refine gf_X12_378 hC rfl hK hP 0 rfl rfl gX12_body_4.2.2.1 ?_
  refine lv_icmp_ne (tgt := 180) hx hb gX12_body_4.2.2.2.1 (by decide) (fun c_173_6612 => ?_) (fun c_173_6612 => ?_)
  · refine lv_iconst (v := 0) hx hb gX12_body_4.2.2.2.2.2.2.1 (by decide) ?_
    refine pf_X12_380 hC rfl hK hP hD hS 0 (ws' := [(h0, oX12 nw nk mhasKept nt mtaped nr mrowMany mroundOf mroundFrom mouts nm mfromHour mtoHour ns mfrom mto msort misFault mdeep mcoded mlines nl nc nF np ntr nb mbestCost nso nsi nit nsh nsf nss nrc (nI jr16609) (nI jd) mnumber mwhose msize 0), (nrc, iA G 30 gtrc6610)]) rfl (Nat.le_of_ble_eq_true rfl) rfl (by decide +kernel) (by decide +kernel) gX12_body_4.2.2.2.2.2.2.2.1 (fun H locs hP hD hS => ?_)
    refine lv_aload_n hx hb gX12_body_4.2.2.2.2.2.2.2.2.1 rfl (lv_at0 hl) ?_
    refine gf_X12_380 hC rfl hK hP 0 rfl rfl gX12_body_4.2.2.2.2.2.2.2.2.2 ?_
    refine lv_if_eq (tgt := 195) hx hb gX12_body_5.1 (by decide) (fun _ => ?_) (fun c9 => absurd (by decide) c9)
    refine lv_iload_n hx hb gX12_body_5.2.2.2.1 rfl (lv_at3 hl) ?_
    refine lv_aload_n hx hb gX12_body_5.2.2.2.2.1 rfl (lv_at0 hl) ?_
    refine gf_X12_375 hC rfl hK hP 0 rfl rfl gX12_body_5.2.2.2.2.2.1 ?_
    refine lv_aload_n hx hb gX12_body_5.2.2.2.2.2.2.1 rfl (lv_at0 hl) ?_
    refine gf_X12_378 hC rfl hK hP 0 rfl rfl gX12_body_5.2.2.2.2.2.2.2.1 ?_
    refine lv_isub hx hb gX12_body_5.2.2.2.2.2.2.2.2.1 ?_
    refine lv_idiv hx hb gX12_body_5.2.2.2.2.2.2.2.2.2 (nz_sub c_173_6612) ?_
    refine lv_topi (fun x6613 ex6613 => ?_)
    refine toQ hQ0 ?_
    exact RI (v := x6613) hC hP hD hS [0, 1] (jr16609, 0, gtrc6610) rfl rfl (by decide) (⟨trivial, by omega⟩) rfl gX12_body_6.1
  · refine lv_iconst (v := 1) hx hb gX12_body_4.2.2.2.2.1 (by decide) ?_
    refine lv_goto (tgt := 181) hx hb gX12_body_4.2.2.2.2.2.1 (by decide) ?_
    refine pf_X12_380 hC rfl hK hP hD hS 0 (ws' := [(h0, oX12 nw nk mhasKept nt mtaped nr mrowMany mroundOf mroundFrom mouts nm mfromHour mtoHour ns mfrom mto msort misFault mdeep mcoded mlines nl nc nF np ntr nb mbestCost nso nsi nit nsh nsf nss nrc (nI jr16609) (nI jd) mnumber mwhose msize 1), (nrc, iA G 30 gtrc6610)]) rfl (Nat.le_of_ble_eq_true rfl) rfl (by decide +kernel) (by decide +kernel) gX12_body_4.2.2.2.2.2.2.2.1 (fun H locs hP hD hS => ?_)
    refine lv_aload_n hx hb gX12_body_4.2.2.2.2.2.2.2.2.1 rfl (lv_at0 hl) ?_
    refine gf_X12_380 hC rfl hK hP 0 rfl rfl gX12_body_4.2.2.2.2.2.2.2.2.2 ?_
    refine lv_if_eq (tgt := 195) hx hb gX12_body_5.1 (by decide) (fun c9 => absurd c9 (by decide)) (fun _ => ?_)
    refine lv_iconst (v := 0) hx hb gX12_body_5.2.1 (by decide) ?_
    refine lv_goto (tgt := 206) hx hb gX12_body_5.2.2.1 (by decide) ?_
    refine toQ hQ0 ?_
    exact RI (v := 0) hC hP hD hS [0, 1] (jr16609, 1, gtrc6610) rfl rfl (by decide) (⟨trivial, by omega⟩) rfl gX12_body_6.1
def K_m_from03 (l : Launch) (G : GG) (h0 : Nat) (xx : Int32) (nw : Nat) (nk : Nat) (mhasKept : Int32) (nt : Nat) (mtaped : Int32) (nr : Nat) (mrowMany : Int32) (mroundOf : Int32) (mroundFrom : Int32) (mouts : Int32) (nm : Nat) (mfromHour : Int32) (mtoHour : Int32) (ns : Nat) (mfrom : Int32) (mto : Int32) (msort : Int32) (misFault : Int32) (mdeep : Int32) (mcoded : Int32) (mlines : Int32) (nl : Nat) (nc : Nat) (nF : Nat) (np : Nat) (ntr : Nat) (nb : Nat) (mbestCost : Int32) (nso : Nat) (nsi : Nat) (nit : Nat) (nsh : Nat) (nsf : Nat) (nss : Nat) (nrc : Nat) (jr : Nat) (jd : Nat) (mnumber : Int32) (mwhose : Int32) (msize : Int32) (misParted : Int32) (fnrc : Nat → Int32) : Prop := MI l G yX12_bodyFrom cX12_bodyFrom 5 (some .int) 40 0 0 [.ref h0, .int 0, .int 3, .int xx] [(h0, oX12 nw nk mhasKept nt mtaped nr mrowMany mroundOf mroundFrom mouts nm mfromHour mtoHour ns mfrom mto msort misFault mdeep mcoded mlines nl nc nF np ntr nb mbestCost nso nsi nit nsh nsf nss nrc (nI jr) (nI jd) mnumber mwhose msize misParted), (nrc, iA G 30 fnrc)] (fun (r : Int32) (u : Nat × Int32 × (Nat → Int32)) => (True) ∧ (u.1 ≤ 30)) (fun u : Nat × Int32 × (Nat → Int32) => [(h0, oX12 nw nk mhasKept nt mtaped nr mrowMany mroundOf mroundFrom mouts nm mfromHour mtoHour ns mfrom mto msort misFault mdeep mcoded mlines nl nc nF np ntr nb mbestCost nso nsi nit nsh nsf nss nrc (nI u.1) (nI jd) mnumber mwhose msize u.2.1), (nrc, iA G 30 u.2.2)])
set_option maxHeartbeats 4000000 in
set_option maxRecDepth 100000 in
theorem m_from03 (l : Launch) (G : GG) (h0 : Nat) (xx : Int32) (nw : Nat) (nk : Nat) (mhasKept : Int32) (nt : Nat) (mtaped : Int32) (nr : Nat) (mrowMany : Int32) (mroundOf : Int32) (mroundFrom : Int32) (mouts : Int32) (nm : Nat) (mfromHour : Int32) (mtoHour : Int32) (ns : Nat) (mfrom : Int32) (mto : Int32) (msort : Int32) (misFault : Int32) (mdeep : Int32) (mcoded : Int32) (mlines : Int32) (nl : Nat) (nc : Nat) (nF : Nat) (np : Nat) (ntr : Nat) (nb : Nat) (mbestCost : Int32) (nso : Nat) (nsi : Nat) (nit : Nat) (nsh : Nat) (nsf : Nat) (nss : Nat) (nrc : Nat) (jr : Nat) (jd : Nat) (mnumber : Int32) (mwhose : Int32) (msize : Int32) (misParted : Int32) (fnrc : Nat → Int32) (hjr : jr ≤ 30) (hjd : jd < 7) : K_m_from03 l G h0 xx nw nk mhasKept nt mtaped nr mrowMany mroundOf mroundFrom mouts nm mfromHour mtoHour ns mfrom mto msort misFault mdeep mcoded mlines nl nc nF np ntr nb mbestCost nso nsi nit nsh nsf nss nrc jr jd mnumber mwhose msize misParted fnrc := by
  refine MI.start (by decide +kernel) (Nat.le_of_ble_eq_true rfl) ?_
  intro p e s m below meth c A ls hC hK hP hD hS hA hl
  refine absQ (fun Q0 hQ0 => ?_)
  have hl : lv_has ls 5 [(0, .ref h0), (1, .int 0), (2, .int 3), (3, .int xx)] := hl
  refine Kan8 hC (fun hx hb hr hml hB hown hlocks hnm => ?_)
  refine lv_iload_n hx hb gX12_bodyFrom_0.1 rfl (lv_at1 hl) ?_
  refine lv_istore (lv' := [(4, .int 0), (0, .ref h0), (1, .int 0), (2, .int 3), (3, .int xx)]) hx hb gX12_bodyFrom_0.2.1 hl (by decide) rfl (fun ls hl => ?_)
  refine lv_iload hx hb gX12_bodyFrom_0.2.2.1 (lv_at0 hl) ?_
  refine lv_iload_n hx hb gX12_bodyFrom_0.2.2.2.1 rfl (lv_at3 hl) ?_
  refine pS hC hK hl (m_hasOwn03 l G) si_X12_360 rfl rfl (Nat.le_of_ble_eq_true rfl) rm_40_1_2 ⟨by first | exact Nat.le_of_ble_eq_true rfl | exact Nat.zero_le _, by first | exact Nat.le_of_ble_eq_true rfl | exact Nat.zero_le _⟩ gX12_bodyFrom_0.2.2.2.2.1 (Keqr ?_)
  refine lv_if_ne (tgt := 22) hx hb gX12_bodyFrom_0.2.2.2.2.2.1 (by decide) (fun _ => ?_) (fun c9 => absurd c9 (by decide))
  refine lv_aload_n hx hb gX12_bodyFrom_1.1 rfl (lv_at1 hl) ?_
  refine lv_iload hx hb gX12_bodyFrom_1.2.1 (lv_at0 hl) ?_
  refine lv_iload_n hx hb gX12_bodyFrom_1.2.2.1 rfl (lv_at3 hl) ?_
  refine lv_iload_n hx hb gX12_bodyFrom_1.2.2.2.1 rfl (lv_at4 hl) ?_
  refine iV (wr := []) hC hK hl hP hD hS hA (m_body03 l G h0 xx nw nk mhasKept nt mtaped nr mrowMany mroundOf mroundFrom mouts nm mfromHour mtoHour ns mfrom mto msort misFault mdeep mcoded mlines nl nc nF np ntr nb mbestCost nso nsi nit nsh nsf nss nrc jr jd mnumber mwhose msize misParted fnrc (hjr) (hjd)) si_X12_363 [0, 1] [] sm_0_1 fm_0_1 nd_0_1 rfl rfl (by decide) rfl rfl rfl rfl rfl (Nat.le_of_ble_eq_true rfl) rm_40_39_6 ⟨Nat.le_of_ble_eq_true rfl, Nat.le_of_ble_eq_true rfl⟩ gX12_bodyFrom_1.2.2.2.2.1 (fun r6616 => Ktu3 fun jr16618 ip16619 gtrc6620 => ?_)
  intro H locs hr6616 hP hD hS
  try dsimp only at hr6616
  refine Kpdr (ws := [(h0, oX12 nw nk mhasKept nt mtaped nr mrowMany mroundOf mroundFrom mouts nm mfromHour mtoHour ns mfrom mto msort misFault mdeep mcoded mlines nl nc nF np ntr nb mbestCost nso nsi nit nsh nsf nss nrc (nI jr16618) (nI jd) mnumber mwhose msize ip16619), (nrc, iA G 30 gtrc6620)]) hP hD (fun hP hD => ?_)
  obtain ⟨hr6616, w6621⟩ := hr6616
  refine toQ hQ0 ?_
  exact RI (v := r6616) hC hP hD hS [0, 1] (jr16618, ip16619, gtrc6620) rfl rfl (by decide) (⟨trivial, by omega⟩) rfl gX12_bodyFrom_1.2.2.2.2.2
def K_m_from13 (l : Launch) (G : GG) (h0 : Nat) (xx : Int32) (nw : Nat) (nk : Nat) (mhasKept : Int32) (nt : Nat) (mtaped : Int32) (nr : Nat) (mrowMany : Int32) (mroundOf : Int32) (mroundFrom : Int32) (mouts : Int32) (nm : Nat) (mfromHour : Int32) (mtoHour : Int32) (ns : Nat) (mfrom : Int32) (mto : Int32) (msort : Int32) (misFault : Int32) (mdeep : Int32) (mcoded : Int32) (mlines : Int32) (nl : Nat) (nc : Nat) (nF : Nat) (np : Nat) (ntr : Nat) (nb : Nat) (mbestCost : Int32) (nso : Nat) (nsi : Nat) (nit : Nat) (nsh : Nat) (nsf : Nat) (nss : Nat) (nrc : Nat) (jr : Nat) (jd : Nat) (mnumber : Int32) (mwhose : Int32) (msize : Int32) (misParted : Int32) (fnrc : Nat → Int32) : Prop := MI l G yX12_bodyFrom cX12_bodyFrom 5 (some .int) 42 0 0 [.ref h0, .int 1, .int 3, .int xx] [(h0, oX12 nw nk mhasKept nt mtaped nr mrowMany mroundOf mroundFrom mouts nm mfromHour mtoHour ns mfrom mto msort misFault mdeep mcoded mlines nl nc nF np ntr nb mbestCost nso nsi nit nsh nsf nss nrc (nI jr) (nI jd) mnumber mwhose msize misParted), (nrc, iA G 30 fnrc)] (fun (r : Int32) (u : Nat × Int32 × (Nat → Int32)) => (True) ∧ (u.1 ≤ 30)) (fun u : Nat × Int32 × (Nat → Int32) => [(h0, oX12 nw nk mhasKept nt mtaped nr mrowMany mroundOf mroundFrom mouts nm mfromHour mtoHour ns mfrom mto msort misFault mdeep mcoded mlines nl nc nF np ntr nb mbestCost nso nsi nit nsh nsf nss nrc (nI u.1) (nI jd) mnumber mwhose msize u.2.1), (nrc, iA G 30 u.2.2)])
set_option maxHeartbeats 4000000 in
set_option maxRecDepth 100000 in
theorem m_from13 (l : Launch) (G : GG) (h0 : Nat) (xx : Int32) (nw : Nat) (nk : Nat) (mhasKept : Int32) (nt : Nat) (mtaped : Int32) (nr : Nat) (mrowMany : Int32) (mroundOf : Int32) (mroundFrom : Int32) (mouts : Int32) (nm : Nat) (mfromHour : Int32) (mtoHour : Int32) (ns : Nat) (mfrom : Int32) (mto : Int32) (msort : Int32) (misFault : Int32) (mdeep : Int32) (mcoded : Int32) (mlines : Int32) (nl : Nat) (nc : Nat) (nF : Nat) (np : Nat) (ntr : Nat) (nb : Nat) (mbestCost : Int32) (nso : Nat) (nsi : Nat) (nit : Nat) (nsh : Nat) (nsf : Nat) (nss : Nat) (nrc : Nat) (jr : Nat) (jd : Nat) (mnumber : Int32) (mwhose : Int32) (msize : Int32) (misParted : Int32) (fnrc : Nat → Int32) (hjr : jr ≤ 30) (hjd : jd < 7) : K_m_from13 l G h0 xx nw nk mhasKept nt mtaped nr mrowMany mroundOf mroundFrom mouts nm mfromHour mtoHour ns mfrom mto msort misFault mdeep mcoded mlines nl nc nF np ntr nb mbestCost nso nsi nit nsh nsf nss nrc jr jd mnumber mwhose msize misParted fnrc := by
  refine MI.start (by decide +kernel) (Nat.le_of_ble_eq_true rfl) ?_
  intro p e s m below meth c A ls hC hK hP hD hS hA hl
  refine absQ (fun Q0 hQ0 => ?_)
  have hl : lv_has ls 5 [(0, .ref h0), (1, .int 1), (2, .int 3), (3, .int xx)] := hl
  refine Kan8 hC (fun hx hb hr hml hB hown hlocks hnm => ?_)
  refine lv_iload_n hx hb gX12_bodyFrom_0.1 rfl (lv_at1 hl) ?_
  refine lv_istore (lv' := [(4, .int 1), (0, .ref h0), (1, .int 1), (2, .int 3), (3, .int xx)]) hx hb gX12_bodyFrom_0.2.1 hl (by decide) rfl (fun ls hl => ?_)
  refine lv_iload hx hb gX12_bodyFrom_0.2.2.1 (lv_at0 hl) ?_
  refine lv_iload_n hx hb gX12_bodyFrom_0.2.2.2.1 rfl (lv_at3 hl) ?_
  refine pS hC hK hl (m_hasOwn13 l G) si_X12_360 rfl rfl (Nat.le_of_ble_eq_true rfl) rm_42_1_2 ⟨by first | exact Nat.le_of_ble_eq_true rfl | exact Nat.zero_le _, by first | exact Nat.le_of_ble_eq_true rfl | exact Nat.zero_le _⟩ gX12_bodyFrom_0.2.2.2.2.1 (Keqr ?_)
  refine lv_if_ne (tgt := 22) hx hb gX12_bodyFrom_0.2.2.2.2.2.1 (by decide) (fun c9 => absurd (by decide) c9) (fun _ => ?_)
  refine lv_iload hx hb gX12_bodyFrom_0.2.2.2.2.2.2.1 (lv_at0 hl) ?_
  refine pS hC hK hl (m_above1 l G) si_X12_348 rfl rfl (Nat.le_of_ble_eq_true rfl) rm_42_1_1 ⟨by first | exact Nat.le_of_ble_eq_true rfl | exact Nat.zero_le _, by first | exact Nat.le_of_ble_eq_true rfl | exact Nat.zero_le _⟩ gX12_bodyFrom_0.2.2.2.2.2.2.2.1 (Keqr ?_)
  refine lv_istore (lv' := [(4, .int 0), (0, .ref h0), (1, .int 1), (2, .int 3), (3, .int xx)]) hx hb gX12_bodyFrom_0.2.2.2.2.2.2.2.2.1 hl (by decide) rfl (fun ls hl => ?_)
  refine lv_goto (tgt := 3) hx hb gX12_bodyFrom_0.2.2.2.2.2.2.2.2.2 (by decide) ?_
  refine lv_iload hx hb gX12_bodyFrom_0.2.2.1 (lv_at0 hl) ?_
  refine lv_iload_n hx hb gX12_bodyFrom_0.2.2.2.1 rfl (lv_at3 hl) ?_
  refine pS hC hK hl (m_hasOwn03 l G) si_X12_360 rfl rfl (Nat.le_of_ble_eq_true rfl) rm_42_1_2 ⟨by first | exact Nat.le_of_ble_eq_true rfl | exact Nat.zero_le _, by first | exact Nat.le_of_ble_eq_true rfl | exact Nat.zero_le _⟩ gX12_bodyFrom_0.2.2.2.2.1 (Keqr ?_)
  refine lv_if_ne (tgt := 22) hx hb gX12_bodyFrom_0.2.2.2.2.2.1 (by decide) (fun _ => ?_) (fun c9 => absurd c9 (by decide))
  refine lv_aload_n hx hb gX12_bodyFrom_1.1 rfl (lv_at1 hl) ?_
  refine lv_iload hx hb gX12_bodyFrom_1.2.1 (lv_at0 hl) ?_
  refine lv_iload_n hx hb gX12_bodyFrom_1.2.2.1 rfl (lv_at3 hl) ?_
  refine lv_iload_n hx hb gX12_bodyFrom_1.2.2.2.1 rfl (lv_at4 hl) ?_
  refine iV (wr := []) hC hK hl hP hD hS hA (m_body03 l G h0 xx nw nk mhasKept nt mtaped nr mrowMany mroundOf mroundFrom mouts nm mfromHour mtoHour ns mfrom mto msort misFault mdeep mcoded mlines nl nc nF np ntr nb mbestCost nso nsi nit nsh nsf nss nrc jr jd mnumber mwhose msize misParted fnrc (hjr) (hjd)) si_X12_363 [0, 1] [] sm_0_1 fm_0_1 nd_0_1 rfl rfl (by decide) rfl rfl rfl rfl rfl (Nat.le_of_ble_eq_true rfl) rm_42_39_6 ⟨Nat.le_of_ble_eq_true rfl, Nat.le_of_ble_eq_true rfl⟩ gX12_bodyFrom_1.2.2.2.2.1 (fun r6628 => Ktu3 fun jr16630 ip16631 gtrc6632 => ?_)
  intro H locs hr6628 hP hD hS
  try dsimp only at hr6628
  refine Kpdr (ws := [(h0, oX12 nw nk mhasKept nt mtaped nr mrowMany mroundOf mroundFrom mouts nm mfromHour mtoHour ns mfrom mto msort misFault mdeep mcoded mlines nl nc nF np ntr nb mbestCost nso nsi nit nsh nsf nss nrc (nI jr16630) (nI jd) mnumber mwhose msize ip16631), (nrc, iA G 30 gtrc6632)]) hP hD (fun hP hD => ?_)
  obtain ⟨hr6628, w6633⟩ := hr6628
  refine toQ hQ0 ?_
  exact RI (v := r6628) hC hP hD hS [0, 1] (jr16630, ip16631, gtrc6632) rfl rfl (by decide) (⟨trivial, by omega⟩) rfl gX12_bodyFrom_1.2.2.2.2.2
def K_m_body33 (l : Launch) (G : GG) (h0 : Nat) (xx : Int32) (nw : Nat) (nk : Nat) (mhasKept : Int32) (nt : Nat) (mtaped : Int32) (nr : Nat) (mrowMany : Int32) (mroundOf : Int32) (mroundFrom : Int32) (mouts : Int32) (nm : Nat) (mfromHour : Int32) (mtoHour : Int32) (ns : Nat) (mfrom : Int32) (mto : Int32) (msort : Int32) (misFault : Int32) (mdeep : Int32) (mcoded : Int32) (mlines : Int32) (nl : Nat) (nc : Nat) (nF : Nat) (np : Nat) (ntr : Nat) (nb : Nat) (mbestCost : Int32) (nso : Nat) (nsi : Nat) (nit : Nat) (nsh : Nat) (nsf : Nat) (nss : Nat) (nrc : Nat) (jr : Nat) (jd : Nat) (mnumber : Int32) (mwhose : Int32) (msize : Int32) (misParted : Int32) (fnrc : Nat → Int32) : Prop := MI l G yX12_body cX12_body 6 (some .int) 43 0 0 [.ref h0, .int 3, .int 3, .int xx] [(h0, oX12 nw nk mhasKept nt mtaped nr mrowMany mroundOf mroundFrom mouts nm mfromHour mtoHour ns mfrom mto msort misFault mdeep mcoded mlines nl nc nF np ntr nb mbestCost nso nsi nit nsh nsf nss nrc (nI jr) (nI jd) mnumber mwhose msize misParted), (nrc, iA G 30 fnrc)] (fun (r : Int32) (u : Nat × Int32 × (Nat → Int32)) => (True) ∧ (u.1 ≤ 30)) (fun u : Nat × Int32 × (Nat → Int32) => [(h0, oX12 nw nk mhasKept nt mtaped nr mrowMany mroundOf mroundFrom mouts nm mfromHour mtoHour ns mfrom mto msort misFault mdeep mcoded mlines nl nc nF np ntr nb mbestCost nso nsi nit nsh nsf nss nrc (nI u.1) (nI jd) mnumber mwhose msize u.2.1), (nrc, iA G 30 u.2.2)])
set_option maxHeartbeats 4000000 in
set_option maxRecDepth 100000 in
theorem m_body33 (l : Launch) (G : GG) (h0 : Nat) (xx : Int32) (nw : Nat) (nk : Nat) (mhasKept : Int32) (nt : Nat) (mtaped : Int32) (nr : Nat) (mrowMany : Int32) (mroundOf : Int32) (mroundFrom : Int32) (mouts : Int32) (nm : Nat) (mfromHour : Int32) (mtoHour : Int32) (ns : Nat) (mfrom : Int32) (mto : Int32) (msort : Int32) (misFault : Int32) (mdeep : Int32) (mcoded : Int32) (mlines : Int32) (nl : Nat) (nc : Nat) (nF : Nat) (np : Nat) (ntr : Nat) (nb : Nat) (mbestCost : Int32) (nso : Nat) (nsi : Nat) (nit : Nat) (nsh : Nat) (nsf : Nat) (nss : Nat) (nrc : Nat) (jr : Nat) (jd : Nat) (mnumber : Int32) (mwhose : Int32) (msize : Int32) (misParted : Int32) (fnrc : Nat → Int32) (hjr : jr ≤ 30) (hjd : jd < 7) : K_m_body33 l G h0 xx nw nk mhasKept nt mtaped nr mrowMany mroundOf mroundFrom mouts nm mfromHour mtoHour ns mfrom mto msort misFault mdeep mcoded mlines nl nc nF np ntr nb mbestCost nso nsi nit nsh nsf nss nrc jr jd mnumber mwhose msize misParted fnrc := by
  refine MI.start (by decide +kernel) (Nat.le_of_ble_eq_true rfl) ?_
  intro p e s m below meth c A ls hC hK hP hD hS hA hl
  refine absQ (fun Q0 hQ0 => ?_)
  have hl : lv_has ls 6 [(0, .ref h0), (1, .int 3), (2, .int 3), (3, .int xx)] := hl
  refine Kan8 hC (fun hx hb hr hml hB hown hlocks hnm => ?_)
  refine lv_iconst (v := 4) hx hb gX12_body_0.1 (by decide) ?_
  refine lv_iload_n hx hb gX12_body_0.2.1 rfl (lv_at1 hl) ?_
  refine lv_imul hx hb gX12_body_0.2.2.1 ?_
  refine eqi (x1 := 12) (by decide) ?_
  refine lv_iload_n hx hb gX12_body_0.2.2.2.1 rfl (lv_at2 hl) ?_
  refine lv_iadd hx hb gX12_body_0.2.2.2.2.1 ?_
  refine eqi (x1 := 15) (by decide) ?_
  refine lv_tableIn (tgt := 258) hx hb gX12_body_0.2.2.2.2.2.1 (by decide) (by decide) rfl (by decide) ?_
  refine lv_aload_n hx hb gX12_body_9.2.2.2.2.2.1 rfl (lv_at0 hl) ?_
  refine lv_bipush (v := 41) hx hb gX12_body_9.2.2.2.2.2.2.1 (by decide) ?_
  refine vV (wr := []) hC hK hl hP hD hS hA (m_began l G h0 41 nw nk mhasKept nt mtaped nr mrowMany mroundOf mroundFrom mouts nm mfromHour mtoHour ns mfrom mto msort misFault mdeep mcoded mlines nl nc nF np ntr nb mbestCost nso nsi nit nsh nsf nss nrc jr (nI jd) mnumber mwhose msize misParted fnrc (hjr)) si_X12_366 [0, 1] [] sm_0_1 fm_0_1 nd_0_1 rfl rfl (by decide) rfl rfl rfl rfl rfl (Nat.le_of_ble_eq_true rfl) rm_43_1_2 ⟨Nat.le_of_ble_eq_true rfl, Nat.le_of_ble_eq_true rfl⟩ gX12_body_9.2.2.2.2.2.2.2.1 (Ktu2 fun jr16636 gtrc6637 => ?_)
  intro H locs hr6634 hP hD hS
  try dsimp only at hr6634
  refine Kpdr (ws := [(h0, oX12 nw nk mhasKept nt mtaped nr mrowMany mroundOf mroundFrom mouts nm mfromHour mtoHour ns mfrom mto msort misFault mdeep mcoded mlines nl nc nF np ntr nb mbestCost nso nsi nit nsh nsf nss nrc (nI jr16636) (nI jd) mnumber mwhose msize misParted), (nrc, iA G 30 gtrc6637)]) hP hD (fun hP hD => ?_)
  have w6638 := hr6634
  refine lv_aload_n hx hb gX12_body_9.2.2.2.2.2.2.2.2.1 rfl (lv_at0 hl) ?_
  refine lv_iconst (v := 1) hx hb gX12_body_9.2.2.2.2.2.2.2.2.2 (by decide) ?_
  refine lv_iconst (v := 3) hx hb gX12_body_10.1 (by decide) ?_
  refine lv_iload_n hx hb gX12_body_10.2.1 rfl (lv_at3 hl) ?_
  refine lv_iconst (v := 2) hx hb gX12_body_10.2.2.1 (by decide) ?_
  refine lv_iadd hx hb gX12_body_10.2.2.2.1 ?_
  refine iV (wr := []) hC hK hl hP hD hS hA (m_from13 l G h0 (xx + 2) nw nk mhasKept nt mtaped nr mrowMany mroundOf mroundFrom mouts nm mfromHour mtoHour ns mfrom mto msort misFault mdeep mcoded mlines nl nc nF np ntr nb mbestCost nso nsi nit nsh nsf nss nrc jr16636 jd mnumber mwhose msize misParted gtrc6637 (w6638) (hjd)) si_X12_357 [0, 1] [] sm_0_1 fm_0_1 nd_0_1 rfl rfl (by decide) rfl rfl rfl rfl rfl (Nat.le_of_ble_eq_true rfl) rm_43_42_5 ⟨Nat.le_of_ble_eq_true rfl, Nat.le_of_ble_eq_true rfl⟩ gX12_body_10.2.2.2.2.1 (fun r6639 => Ktu3 fun jr16641 ip16642 gtrc6643 => ?_)
  intro H locs hr6639 hP hD hS
  try dsimp only at hr6639
  refine Kpdr (ws := [(h0, oX12 nw nk mhasKept nt mtaped nr mrowMany mroundOf mroundFrom mouts nm mfromHour mtoHour ns mfrom mto msort misFault mdeep mcoded mlines nl nc nF np ntr nb mbestCost nso nsi nit nsh nsf nss nrc (nI jr16641) (nI jd) mnumber mwhose msize ip16642), (nrc, iA G 30 gtrc6643)]) hP hD (fun hP hD => ?_)
  obtain ⟨hr6639, w6644⟩ := hr6639
  refine toQ hQ0 ?_
  exact RI (v := r6639) hC hP hD hS [0, 1] (jr16641, ip16642, gtrc6643) rfl rfl (by decide) (⟨trivial, by omega⟩) rfl gX12_body_10.2.2.2.2.2.1
def K_m_from33 (l : Launch) (G : GG) (h0 : Nat) (xx : Int32) (nw : Nat) (nk : Nat) (mhasKept : Int32) (nt : Nat) (mtaped : Int32) (nr : Nat) (mrowMany : Int32) (mroundOf : Int32) (mroundFrom : Int32) (mouts : Int32) (nm : Nat) (mfromHour : Int32) (mtoHour : Int32) (ns : Nat) (mfrom : Int32) (mto : Int32) (msort : Int32) (misFault : Int32) (mdeep : Int32) (mcoded : Int32) (mlines : Int32) (nl : Nat) (nc : Nat) (nF : Nat) (np : Nat) (ntr : Nat) (nb : Nat) (mbestCost : Int32) (nso : Nat) (nsi : Nat) (nit : Nat) (nsh : Nat) (nsf : Nat) (nss : Nat) (nrc : Nat) (jr : Nat) (jd : Nat) (mnumber : Int32) (mwhose : Int32) (msize : Int32) (misParted : Int32) (fnrc : Nat → Int32) : Prop := MI l G yX12_bodyFrom cX12_bodyFrom 5 (some .int) 44 0 0 [.ref h0, .int 3, .int 3, .int xx] [(h0, oX12 nw nk mhasKept nt mtaped nr mrowMany mroundOf mroundFrom mouts nm mfromHour mtoHour ns mfrom mto msort misFault mdeep mcoded mlines nl nc nF np ntr nb mbestCost nso nsi nit nsh nsf nss nrc (nI jr) (nI jd) mnumber mwhose msize misParted), (nrc, iA G 30 fnrc)] (fun (r : Int32) (u : Nat × Int32 × (Nat → Int32)) => (True) ∧ (u.1 ≤ 30)) (fun u : Nat × Int32 × (Nat → Int32) => [(h0, oX12 nw nk mhasKept nt mtaped nr mrowMany mroundOf mroundFrom mouts nm mfromHour mtoHour ns mfrom mto msort misFault mdeep mcoded mlines nl nc nF np ntr nb mbestCost nso nsi nit nsh nsf nss nrc (nI u.1) (nI jd) mnumber mwhose msize u.2.1), (nrc, iA G 30 u.2.2)])
set_option maxHeartbeats 4000000 in
set_option maxRecDepth 100000 in
theorem m_from33 (l : Launch) (G : GG) (h0 : Nat) (xx : Int32) (nw : Nat) (nk : Nat) (mhasKept : Int32) (nt : Nat) (mtaped : Int32) (nr : Nat) (mrowMany : Int32) (mroundOf : Int32) (mroundFrom : Int32) (mouts : Int32) (nm : Nat) (mfromHour : Int32) (mtoHour : Int32) (ns : Nat) (mfrom : Int32) (mto : Int32) (msort : Int32) (misFault : Int32) (mdeep : Int32) (mcoded : Int32) (mlines : Int32) (nl : Nat) (nc : Nat) (nF : Nat) (np : Nat) (ntr : Nat) (nb : Nat) (mbestCost : Int32) (nso : Nat) (nsi : Nat) (nit : Nat) (nsh : Nat) (nsf : Nat) (nss : Nat) (nrc : Nat) (jr : Nat) (jd : Nat) (mnumber : Int32) (mwhose : Int32) (msize : Int32) (misParted : Int32) (fnrc : Nat → Int32) (hjr : jr ≤ 30) (hjd : jd < 7) : K_m_from33 l G h0 xx nw nk mhasKept nt mtaped nr mrowMany mroundOf mroundFrom mouts nm mfromHour mtoHour ns mfrom mto msort misFault mdeep mcoded mlines nl nc nF np ntr nb mbestCost nso nsi nit nsh nsf nss nrc jr jd mnumber mwhose msize misParted fnrc := by
  refine MI.start (by decide +kernel) (Nat.le_of_ble_eq_true rfl) ?_
  intro p e s m below meth c A ls hC hK hP hD hS hA hl
  refine absQ (fun Q0 hQ0 => ?_)
  have hl : lv_has ls 5 [(0, .ref h0), (1, .int 3), (2, .int 3), (3, .int xx)] := hl
  refine Kan8 hC (fun hx hb hr hml hB hown hlocks hnm => ?_)
  refine lv_iload_n hx hb gX12_bodyFrom_0.1 rfl (lv_at1 hl) ?_
  refine lv_istore (lv' := [(4, .int 3), (0, .ref h0), (1, .int 3), (2, .int 3), (3, .int xx)]) hx hb gX12_bodyFrom_0.2.1 hl (by decide) rfl (fun ls hl => ?_)
  refine lv_iload hx hb gX12_bodyFrom_0.2.2.1 (lv_at0 hl) ?_
  refine lv_iload_n hx hb gX12_bodyFrom_0.2.2.2.1 rfl (lv_at3 hl) ?_
  refine pS hC hK hl (m_hasOwn33 l G) si_X12_360 rfl rfl (Nat.le_of_ble_eq_true rfl) rm_44_1_2 ⟨by first | exact Nat.le_of_ble_eq_true rfl | exact Nat.zero_le _, by first | exact Nat.le_of_ble_eq_true rfl | exact Nat.zero_le _⟩ gX12_bodyFrom_0.2.2.2.2.1 (Keqr ?_)
  refine lv_if_ne (tgt := 22) hx hb gX12_bodyFrom_0.2.2.2.2.2.1 (by decide) (fun _ => ?_) (fun c9 => absurd c9 (by decide))
  refine lv_aload_n hx hb gX12_bodyFrom_1.1 rfl (lv_at1 hl) ?_
  refine lv_iload hx hb gX12_bodyFrom_1.2.1 (lv_at0 hl) ?_
  refine lv_iload_n hx hb gX12_bodyFrom_1.2.2.1 rfl (lv_at3 hl) ?_
  refine lv_iload_n hx hb gX12_bodyFrom_1.2.2.2.1 rfl (lv_at4 hl) ?_
  refine iV (wr := []) hC hK hl hP hD hS hA (m_body33 l G h0 xx nw nk mhasKept nt mtaped nr mrowMany mroundOf mroundFrom mouts nm mfromHour mtoHour ns mfrom mto msort misFault mdeep mcoded mlines nl nc nF np ntr nb mbestCost nso nsi nit nsh nsf nss nrc jr jd mnumber mwhose msize misParted fnrc (hjr) (hjd)) si_X12_363 [0, 1] [] sm_0_1 fm_0_1 nd_0_1 rfl rfl (by decide) rfl rfl rfl rfl rfl (Nat.le_of_ble_eq_true rfl) rm_44_43_6 ⟨Nat.le_of_ble_eq_true rfl, Nat.le_of_ble_eq_true rfl⟩ gX12_bodyFrom_1.2.2.2.2.1 (fun r6647 => Ktu3 fun jr16649 ip16650 gtrc6651 => ?_)
  intro H locs hr6647 hP hD hS
  try dsimp only at hr6647
  refine Kpdr (ws := [(h0, oX12 nw nk mhasKept nt mtaped nr mrowMany mroundOf mroundFrom mouts nm mfromHour mtoHour ns mfrom mto msort misFault mdeep mcoded mlines nl nc nF np ntr nb mbestCost nso nsi nit nsh nsf nss nrc (nI jr16649) (nI jd) mnumber mwhose msize ip16650), (nrc, iA G 30 gtrc6651)]) hP hD (fun hP hD => ?_)
  obtain ⟨hr6647, w6652⟩ := hr6647
  refine toQ hQ0 ?_
  exact RI (v := r6647) hC hP hD hS [0, 1] (jr16649, ip16650, gtrc6651) rfl rfl (by decide) (⟨trivial, by omega⟩) rfl gX12_bodyFrom_1.2.2.2.2.2
def K_m_body63 (l : Launch) (G : GG) (h0 : Nat) (xx : Int32) (nw : Nat) (nk : Nat) (mhasKept : Int32) (nt : Nat) (mtaped : Int32) (nr : Nat) (mrowMany : Int32) (mroundOf : Int32) (mroundFrom : Int32) (mouts : Int32) (nm : Nat) (mfromHour : Int32) (mtoHour : Int32) (ns : Nat) (mfrom : Int32) (mto : Int32) (msort : Int32) (misFault : Int32) (mdeep : Int32) (mcoded : Int32) (mlines : Int32) (nl : Nat) (nc : Nat) (nF : Nat) (np : Nat) (ntr : Nat) (nb : Nat) (mbestCost : Int32) (nso : Nat) (nsi : Nat) (nit : Nat) (nsh : Nat) (nsf : Nat) (nss : Nat) (nrc : Nat) (jr : Nat) (jd : Nat) (mnumber : Int32) (mwhose : Int32) (msize : Int32) (misParted : Int32) (fnrc : Nat → Int32) : Prop := MI l G yX12_body cX12_body 6 (some .int) 45 0 0 [.ref h0, .int 6, .int 3, .int xx] [(h0, oX12 nw nk mhasKept nt mtaped nr mrowMany mroundOf mroundFrom mouts nm mfromHour mtoHour ns mfrom mto msort misFault mdeep mcoded mlines nl nc nF np ntr nb mbestCost nso nsi nit nsh nsf nss nrc (nI jr) (nI jd) mnumber mwhose msize misParted), (nrc, iA G 30 fnrc)] (fun (r : Int32) (u : Nat × Int32 × (Nat → Int32)) => (True) ∧ (u.1 ≤ 30)) (fun u : Nat × Int32 × (Nat → Int32) => [(h0, oX12 nw nk mhasKept nt mtaped nr mrowMany mroundOf mroundFrom mouts nm mfromHour mtoHour ns mfrom mto msort misFault mdeep mcoded mlines nl nc nF np ntr nb mbestCost nso nsi nit nsh nsf nss nrc (nI u.1) (nI jd) mnumber mwhose msize u.2.1), (nrc, iA G 30 u.2.2)])
set_option maxHeartbeats 4000000 in
set_option maxRecDepth 100000 in
theorem m_body63 (l : Launch) (G : GG) (h0 : Nat) (xx : Int32) (nw : Nat) (nk : Nat) (mhasKept : Int32) (nt : Nat) (mtaped : Int32) (nr : Nat) (mrowMany : Int32) (mroundOf : Int32) (mroundFrom : Int32) (mouts : Int32) (nm : Nat) (mfromHour : Int32) (mtoHour : Int32) (ns : Nat) (mfrom : Int32) (mto : Int32) (msort : Int32) (misFault : Int32) (mdeep : Int32) (mcoded : Int32) (mlines : Int32) (nl : Nat) (nc : Nat) (nF : Nat) (np : Nat) (ntr : Nat) (nb : Nat) (mbestCost : Int32) (nso : Nat) (nsi : Nat) (nit : Nat) (nsh : Nat) (nsf : Nat) (nss : Nat) (nrc : Nat) (jr : Nat) (jd : Nat) (mnumber : Int32) (mwhose : Int32) (msize : Int32) (misParted : Int32) (fnrc : Nat → Int32) (hjr : jr ≤ 30) (hjd : jd < 7) : K_m_body63 l G h0 xx nw nk mhasKept nt mtaped nr mrowMany mroundOf mroundFrom mouts nm mfromHour mtoHour ns mfrom mto msort misFault mdeep mcoded mlines nl nc nF np ntr nb mbestCost nso nsi nit nsh nsf nss nrc jr jd mnumber mwhose msize misParted fnrc := by
  refine MI.start (by decide +kernel) (Nat.le_of_ble_eq_true rfl) ?_
  intro p e s m below meth c A ls hC hK hP hD hS hA hl
  refine absQ (fun Q0 hQ0 => ?_)
  have hl : lv_has ls 6 [(0, .ref h0), (1, .int 6), (2, .int 3), (3, .int xx)] := hl
  refine Kan8 hC (fun hx hb hr hml hB hown hlocks hnm => ?_)
  refine lv_iconst (v := 4) hx hb gX12_body_0.1 (by decide) ?_
  refine lv_iload_n hx hb gX12_body_0.2.1 rfl (lv_at1 hl) ?_
  refine lv_imul hx hb gX12_body_0.2.2.1 ?_
  refine eqi (x1 := 24) (by decide) ?_
  refine lv_iload_n hx hb gX12_body_0.2.2.2.1 rfl (lv_at2 hl) ?_
  refine lv_iadd hx hb gX12_body_0.2.2.2.2.1 ?_
  refine eqi (x1 := 27) (by decide) ?_
  refine lv_tableOut (tgt := 353) hx hb gX12_body_0.2.2.2.2.2.1 (by decide) (by decide) ?_
  refine lv_aload_n hx hb gX12_body_15.2.2.2.2.2.2.2.1 rfl (lv_at0 hl) ?_
  refine lv_bipush (v := 70) hx hb gX12_body_15.2.2.2.2.2.2.2.2.1 (by decide) ?_
  refine vV (wr := []) hC hK hl hP hD hS hA (m_began l G h0 70 nw nk mhasKept nt mtaped nr mrowMany mroundOf mroundFrom mouts nm mfromHour mtoHour ns mfrom mto msort misFault mdeep mcoded mlines nl nc nF np ntr nb mbestCost nso nsi nit nsh nsf nss nrc jr (nI jd) mnumber mwhose msize misParted fnrc (hjr)) si_X12_366 [0, 1] [] sm_0_1 fm_0_1 nd_0_1 rfl rfl (by decide) rfl rfl rfl rfl rfl (Nat.le_of_ble_eq_true rfl) rm_45_1_2 ⟨Nat.le_of_ble_eq_true rfl, Nat.le_of_ble_eq_true rfl⟩ gX12_body_15.2.2.2.2.2.2.2.2.2 (Ktu2 fun jr16655 gtrc6656 => ?_)
  intro H locs hr6653 hP hD hS
  try dsimp only at hr6653
  refine Kpdr (ws := [(h0, oX12 nw nk mhasKept nt mtaped nr mrowMany mroundOf mroundFrom mouts nm mfromHour mtoHour ns mfrom mto msort misFault mdeep mcoded mlines nl nc nF np ntr nb mbestCost nso nsi nit nsh nsf nss nrc (nI jr16655) (nI jd) mnumber mwhose msize misParted), (nrc, iA G 30 gtrc6656)]) hP hD (fun hP hD => ?_)
  have w6657 := hr6653
  refine lv_aload_n hx hb gX12_body_16.1 rfl (lv_at0 hl) ?_
  refine lv_iconst (v := 0) hx hb gX12_body_16.2.1 (by decide) ?_
  refine lv_iconst (v := 3) hx hb gX12_body_16.2.2.1 (by decide) ?_
  refine lv_iload_n hx hb gX12_body_16.2.2.2.1 rfl (lv_at3 hl) ?_
  refine iV (wr := []) hC hK hl hP hD hS hA (m_from03 l G h0 xx nw nk mhasKept nt mtaped nr mrowMany mroundOf mroundFrom mouts nm mfromHour mtoHour ns mfrom mto msort misFault mdeep mcoded mlines nl nc nF np ntr nb mbestCost nso nsi nit nsh nsf nss nrc jr16655 jd mnumber mwhose msize misParted gtrc6656 (w6657) (hjd)) si_X12_357 [0, 1] [] sm_0_1 fm_0_1 nd_0_1 rfl rfl (by decide) rfl rfl rfl rfl rfl (Nat.le_of_ble_eq_true rfl) rm_45_40_5 ⟨Nat.le_of_ble_eq_true rfl, Nat.le_of_ble_eq_true rfl⟩ gX12_body_16.2.2.2.2.1 (fun r6658 => Ktu3 fun jr16660 ip16661 gtrc6662 => ?_)
  intro H locs hr6658 hP hD hS
  try dsimp only at hr6658
  refine Kpdr (ws := [(h0, oX12 nw nk mhasKept nt mtaped nr mrowMany mroundOf mroundFrom mouts nm mfromHour mtoHour ns mfrom mto msort misFault mdeep mcoded mlines nl nc nF np ntr nb mbestCost nso nsi nit nsh nsf nss nrc (nI jr16660) (nI jd) mnumber mwhose msize ip16661), (nrc, iA G 30 gtrc6662)]) hP hD (fun hP hD => ?_)
  obtain ⟨hr6658, w6663⟩ := hr6658
  refine lv_istore (lv' := [(5, .int r6658), (0, .ref h0), (1, .int 6), (2, .int 3), (3, .int xx)]) hx hb gX12_body_16.2.2.2.2.2.1 hl (by decide) rfl (fun ls hl => ?_)
  refine lv_aload_n hx hb gX12_body_16.2.2.2.2.2.2.1 rfl (lv_at1 hl) ?_
  refine gf_X12_380 hC rfl hK hP 0 rfl rfl gX12_body_16.2.2.2.2.2.2.2.1 ?_
  refine lv_if_eq (tgt := 379) hx hb gX12_body_16.2.2.2.2.2.2.2.2.1 (by decide) (fun c_372_6664 => ?_) (fun c_372_6664 => ?_)
  · refine lv_iload hx hb gX12_body_17.2.1 (lv_at0 hl) ?_
    refine lv_aload_n hx hb gX12_body_17.2.2.1 rfl (lv_at1 hl) ?_
    refine lv_iconst (v := 0) hx hb gX12_body_17.2.2.2.1 (by decide) ?_
    refine lv_aload_n hx hb gX12_body_17.2.2.2.2.1 rfl (lv_at1 hl) ?_
    refine gf_X12_378 hC rfl hK hP 0 rfl rfl gX12_body_17.2.2.2.2.2.1 ?_
    refine iV (wr := []) hC hK hl hP hD hS hA (m_dealt0 l G h0 mnumber nw nk mhasKept nt mtaped nr mrowMany mroundOf mroundFrom mouts nm mfromHour mtoHour ns mfrom mto msort misFault mdeep mcoded mlines nl nc nF np ntr nb mbestCost nso nsi nit nsh nsf nss nrc jr16660 jd mnumber mwhose msize ip16661 gtrc6662 (w6663) (hjd)) si_X12_372 [0, 1] [] sm_0_1 fm_0_1 nd_0_1 rfl rfl (by decide) rfl rfl rfl rfl rfl (Nat.le_of_ble_eq_true rfl) rm_45_14_3 ⟨Nat.le_of_ble_eq_true rfl, Nat.le_of_ble_eq_true rfl⟩ gX12_body_17.2.2.2.2.2.2.1 (fun r6665 => Ktu3 fun jr16667 ip16668 gtrc6669 => ?_)
    intro H locs hr6665 hP hD hS
    try dsimp only at hr6665
    refine Kpdr (ws := [(h0, oX12 nw nk mhasKept nt mtaped nr mrowMany mroundOf mroundFrom mouts nm mfromHour mtoHour ns mfrom mto msort misFault mdeep mcoded mlines nl nc nF np ntr nb mbestCost nso nsi nit nsh nsf nss nrc (nI jr16667) (nI jd) mnumber mwhose msize ip16668), (nrc, iA G 30 gtrc6669)]) hP hD (fun hP hD => ?_)
    obtain ⟨hr6665, w6670⟩ := hr6665
    refine lv_isub hx hb gX12_body_17.2.2.2.2.2.2.2.1 ?_
    refine toQ hQ0 ?_
    exact RI (v := r6658 - r6665) hC hP hD hS [0, 1] (jr16667, ip16668, gtrc6669) rfl rfl (by decide) (⟨trivial, by omega⟩) rfl gX12_body_17.2.2.2.2.2.2.2.2
  · refine lv_iconst (v := 0) hx hb gX12_body_16.2.2.2.2.2.2.2.2.2 (by decide) ?_
    refine lv_goto (tgt := 391) hx hb gX12_body_17.1 (by decide) ?_
    refine toQ hQ0 ?_
    exact RI (v := 0) hC hP hD hS [0, 1] (jr16660, ip16661, gtrc6662) rfl rfl (by decide) (⟨trivial, by omega⟩) rfl gX12_body_17.2.2.2.2.2.2.2.2
def K_m_from63 (l : Launch) (G : GG) (h0 : Nat) (xx : Int32) (nw : Nat) (nk : Nat) (mhasKept : Int32) (nt : Nat) (mtaped : Int32) (nr : Nat) (mrowMany : Int32) (mroundOf : Int32) (mroundFrom : Int32) (mouts : Int32) (nm : Nat) (mfromHour : Int32) (mtoHour : Int32) (ns : Nat) (mfrom : Int32) (mto : Int32) (msort : Int32) (misFault : Int32) (mdeep : Int32) (mcoded : Int32) (mlines : Int32) (nl : Nat) (nc : Nat) (nF : Nat) (np : Nat) (ntr : Nat) (nb : Nat) (mbestCost : Int32) (nso : Nat) (nsi : Nat) (nit : Nat) (nsh : Nat) (nsf : Nat) (nss : Nat) (nrc : Nat) (jr : Nat) (jd : Nat) (mnumber : Int32) (mwhose : Int32) (msize : Int32) (misParted : Int32) (fnrc : Nat → Int32) : Prop := MI l G yX12_bodyFrom cX12_bodyFrom 5 (some .int) 46 0 0 [.ref h0, .int 6, .int 3, .int xx] [(h0, oX12 nw nk mhasKept nt mtaped nr mrowMany mroundOf mroundFrom mouts nm mfromHour mtoHour ns mfrom mto msort misFault mdeep mcoded mlines nl nc nF np ntr nb mbestCost nso nsi nit nsh nsf nss nrc (nI jr) (nI jd) mnumber mwhose msize misParted), (nrc, iA G 30 fnrc)] (fun (r : Int32) (u : Nat × Int32 × (Nat → Int32)) => (True) ∧ (u.1 ≤ 30)) (fun u : Nat × Int32 × (Nat → Int32) => [(h0, oX12 nw nk mhasKept nt mtaped nr mrowMany mroundOf mroundFrom mouts nm mfromHour mtoHour ns mfrom mto msort misFault mdeep mcoded mlines nl nc nF np ntr nb mbestCost nso nsi nit nsh nsf nss nrc (nI u.1) (nI jd) mnumber mwhose msize u.2.1), (nrc, iA G 30 u.2.2)])
set_option maxHeartbeats 4000000 in
set_option maxRecDepth 100000 in
theorem m_from63 (l : Launch) (G : GG) (h0 : Nat) (xx : Int32) (nw : Nat) (nk : Nat) (mhasKept : Int32) (nt : Nat) (mtaped : Int32) (nr : Nat) (mrowMany : Int32) (mroundOf : Int32) (mroundFrom : Int32) (mouts : Int32) (nm : Nat) (mfromHour : Int32) (mtoHour : Int32) (ns : Nat) (mfrom : Int32) (mto : Int32) (msort : Int32) (misFault : Int32) (mdeep : Int32) (mcoded : Int32) (mlines : Int32) (nl : Nat) (nc : Nat) (nF : Nat) (np : Nat) (ntr : Nat) (nb : Nat) (mbestCost : Int32) (nso : Nat) (nsi : Nat) (nit : Nat) (nsh : Nat) (nsf : Nat) (nss : Nat) (nrc : Nat) (jr : Nat) (jd : Nat) (mnumber : Int32) (mwhose : Int32) (msize : Int32) (misParted : Int32) (fnrc : Nat → Int32) (hjr : jr ≤ 30) (hjd : jd < 7) : K_m_from63 l G h0 xx nw nk mhasKept nt mtaped nr mrowMany mroundOf mroundFrom mouts nm mfromHour mtoHour ns mfrom mto msort misFault mdeep mcoded mlines nl nc nF np ntr nb mbestCost nso nsi nit nsh nsf nss nrc jr jd mnumber mwhose msize misParted fnrc := by
  refine MI.start (by decide +kernel) (Nat.le_of_ble_eq_true rfl) ?_
  intro p e s m below meth c A ls hC hK hP hD hS hA hl
  refine absQ (fun Q0 hQ0 => ?_)
  have hl : lv_has ls 5 [(0, .ref h0), (1, .int 6), (2, .int 3), (3, .int xx)] := hl
  refine Kan8 hC (fun hx hb hr hml hB hown hlocks hnm => ?_)
  refine lv_iload_n hx hb gX12_bodyFrom_0.1 rfl (lv_at1 hl) ?_
  refine lv_istore (lv' := [(4, .int 6), (0, .ref h0), (1, .int 6), (2, .int 3), (3, .int xx)]) hx hb gX12_bodyFrom_0.2.1 hl (by decide) rfl (fun ls hl => ?_)
  refine lv_iload hx hb gX12_bodyFrom_0.2.2.1 (lv_at0 hl) ?_
  refine lv_iload_n hx hb gX12_bodyFrom_0.2.2.2.1 rfl (lv_at3 hl) ?_
  refine pS hC hK hl (m_hasOwn63 l G) si_X12_360 rfl rfl (Nat.le_of_ble_eq_true rfl) rm_46_1_2 ⟨by first | exact Nat.le_of_ble_eq_true rfl | exact Nat.zero_le _, by first | exact Nat.le_of_ble_eq_true rfl | exact Nat.zero_le _⟩ gX12_bodyFrom_0.2.2.2.2.1 (Keqr ?_)
  refine lv_if_ne (tgt := 22) hx hb gX12_bodyFrom_0.2.2.2.2.2.1 (by decide) (fun _ => ?_) (fun c9 => absurd c9 (by decide))
  refine lv_aload_n hx hb gX12_bodyFrom_1.1 rfl (lv_at1 hl) ?_
  refine lv_iload hx hb gX12_bodyFrom_1.2.1 (lv_at0 hl) ?_
  refine lv_iload_n hx hb gX12_bodyFrom_1.2.2.1 rfl (lv_at3 hl) ?_
  refine lv_iload_n hx hb gX12_bodyFrom_1.2.2.2.1 rfl (lv_at4 hl) ?_
  refine iV (wr := []) hC hK hl hP hD hS hA (m_body63 l G h0 xx nw nk mhasKept nt mtaped nr mrowMany mroundOf mroundFrom mouts nm mfromHour mtoHour ns mfrom mto msort misFault mdeep mcoded mlines nl nc nF np ntr nb mbestCost nso nsi nit nsh nsf nss nrc jr jd mnumber mwhose msize misParted fnrc (hjr) (hjd)) si_X12_363 [0, 1] [] sm_0_1 fm_0_1 nd_0_1 rfl rfl (by decide) rfl rfl rfl rfl rfl (Nat.le_of_ble_eq_true rfl) rm_46_45_6 ⟨Nat.le_of_ble_eq_true rfl, Nat.le_of_ble_eq_true rfl⟩ gX12_bodyFrom_1.2.2.2.2.1 (fun r6673 => Ktu3 fun jr16675 ip16676 gtrc6677 => ?_)
  intro H locs hr6673 hP hD hS
  try dsimp only at hr6673
  refine Kpdr (ws := [(h0, oX12 nw nk mhasKept nt mtaped nr mrowMany mroundOf mroundFrom mouts nm mfromHour mtoHour ns mfrom mto msort misFault mdeep mcoded mlines nl nc nF np ntr nb mbestCost nso nsi nit nsh nsf nss nrc (nI jr16675) (nI jd) mnumber mwhose msize ip16676), (nrc, iA G 30 gtrc6677)]) hP hD (fun hP hD => ?_)
  obtain ⟨hr6673, w6678⟩ := hr6673
  refine toQ hQ0 ?_
  exact RI (v := r6673) hC hP hD hS [0, 1] (jr16675, ip16676, gtrc6677) rfl rfl (by decide) (⟨trivial, by omega⟩) rfl gX12_bodyFrom_1.2.2.2.2.2
def K_m_from23 (l : Launch) (G : GG) (h0 : Nat) (xx : Int32) (nw : Nat) (nk : Nat) (mhasKept : Int32) (nt : Nat) (mtaped : Int32) (nr : Nat) (mrowMany : Int32) (mroundOf : Int32) (mroundFrom : Int32) (mouts : Int32) (nm : Nat) (mfromHour : Int32) (mtoHour : Int32) (ns : Nat) (mfrom : Int32) (mto : Int32) (msort : Int32) (misFault : Int32) (mdeep : Int32) (mcoded : Int32) (mlines : Int32) (nl : Nat) (nc : Nat) (nF : Nat) (np : Nat) (ntr : Nat) (nb : Nat) (mbestCost : Int32) (nso : Nat) (nsi : Nat) (nit : Nat) (nsh : Nat) (nsf : Nat) (nss : Nat) (nrc : Nat) (jr : Nat) (jd : Nat) (mnumber : Int32) (mwhose : Int32) (msize : Int32) (misParted : Int32) (fnrc : Nat → Int32) : Prop := MI l G yX12_bodyFrom cX12_bodyFrom 5 (some .int) 48 0 0 [.ref h0, .int 2, .int 3, .int xx] [(h0, oX12 nw nk mhasKept nt mtaped nr mrowMany mroundOf mroundFrom mouts nm mfromHour mtoHour ns mfrom mto msort misFault mdeep mcoded mlines nl nc nF np ntr nb mbestCost nso nsi nit nsh nsf nss nrc (nI jr) (nI jd) mnumber mwhose msize misParted), (nrc, iA G 30 fnrc)] (fun (r : Int32) (u : Nat × Int32 × (Nat → Int32)) => (True) ∧ (u.1 ≤ 30)) (fun u : Nat × Int32 × (Nat → Int32) => [(h0, oX12 nw nk mhasKept nt mtaped nr mrowMany mroundOf mroundFrom mouts nm mfromHour mtoHour ns mfrom mto msort misFault mdeep mcoded mlines nl nc nF np ntr nb mbestCost nso nsi nit nsh nsf nss nrc (nI u.1) (nI jd) mnumber mwhose msize u.2.1), (nrc, iA G 30 u.2.2)])
set_option maxHeartbeats 4000000 in
set_option maxRecDepth 100000 in
theorem m_from23 (l : Launch) (G : GG) (h0 : Nat) (xx : Int32) (nw : Nat) (nk : Nat) (mhasKept : Int32) (nt : Nat) (mtaped : Int32) (nr : Nat) (mrowMany : Int32) (mroundOf : Int32) (mroundFrom : Int32) (mouts : Int32) (nm : Nat) (mfromHour : Int32) (mtoHour : Int32) (ns : Nat) (mfrom : Int32) (mto : Int32) (msort : Int32) (misFault : Int32) (mdeep : Int32) (mcoded : Int32) (mlines : Int32) (nl : Nat) (nc : Nat) (nF : Nat) (np : Nat) (ntr : Nat) (nb : Nat) (mbestCost : Int32) (nso : Nat) (nsi : Nat) (nit : Nat) (nsh : Nat) (nsf : Nat) (nss : Nat) (nrc : Nat) (jr : Nat) (jd : Nat) (mnumber : Int32) (mwhose : Int32) (msize : Int32) (misParted : Int32) (fnrc : Nat → Int32) (hjr : jr ≤ 30) (hjd : jd < 7) : K_m_from23 l G h0 xx nw nk mhasKept nt mtaped nr mrowMany mroundOf mroundFrom mouts nm mfromHour mtoHour ns mfrom mto msort misFault mdeep mcoded mlines nl nc nF np ntr nb mbestCost nso nsi nit nsh nsf nss nrc jr jd mnumber mwhose msize misParted fnrc := by
  refine MI.start (by decide +kernel) (Nat.le_of_ble_eq_true rfl) ?_
  intro p e s m below meth c A ls hC hK hP hD hS hA hl
  refine absQ (fun Q0 hQ0 => ?_)
  have hl : lv_has ls 5 [(0, .ref h0), (1, .int 2), (2, .int 3), (3, .int xx)] := hl
  refine Kan8 hC (fun hx hb hr hml hB hown hlocks hnm => ?_)
  refine lv_iload_n hx hb gX12_bodyFrom_0.1 rfl (lv_at1 hl) ?_
  refine lv_istore (lv' := [(4, .int 2), (0, .ref h0), (1, .int 2), (2, .int 3), (3, .int xx)]) hx hb gX12_bodyFrom_0.2.1 hl (by decide) rfl (fun ls hl => ?_)
  refine lv_iload hx hb gX12_bodyFrom_0.2.2.1 (lv_at0 hl) ?_
  refine lv_iload_n hx hb gX12_bodyFrom_0.2.2.2.1 rfl (lv_at3 hl) ?_
  refine pS hC hK hl (m_hasOwn23 l G) si_X12_360 rfl rfl (Nat.le_of_ble_eq_true rfl) rm_48_1_2 ⟨by first | exact Nat.le_of_ble_eq_true rfl | exact Nat.zero_le _, by first | exact Nat.le_of_ble_eq_true rfl | exact Nat.zero_le _⟩ gX12_bodyFrom_0.2.2.2.2.1 (Keqr ?_)
  refine lv_if_ne (tgt := 22) hx hb gX12_bodyFrom_0.2.2.2.2.2.1 (by decide) (fun c9 => absurd (by decide) c9) (fun _ => ?_)
  refine lv_iload hx hb gX12_bodyFrom_0.2.2.2.2.2.2.1 (lv_at0 hl) ?_
  refine pS hC hK hl (m_above2 l G) si_X12_348 rfl rfl (Nat.le_of_ble_eq_true rfl) rm_48_1_1 ⟨by first | exact Nat.le_of_ble_eq_true rfl | exact Nat.zero_le _, by first | exact Nat.le_of_ble_eq_true rfl | exact Nat.zero_le _⟩ gX12_bodyFrom_0.2.2.2.2.2.2.2.1 (Keqr ?_)
  refine lv_istore (lv' := [(4, .int 0), (0, .ref h0), (1, .int 2), (2, .int 3), (3, .int xx)]) hx hb gX12_bodyFrom_0.2.2.2.2.2.2.2.2.1 hl (by decide) rfl (fun ls hl => ?_)
  refine lv_goto (tgt := 3) hx hb gX12_bodyFrom_0.2.2.2.2.2.2.2.2.2 (by decide) ?_
  refine lv_iload hx hb gX12_bodyFrom_0.2.2.1 (lv_at0 hl) ?_
  refine lv_iload_n hx hb gX12_bodyFrom_0.2.2.2.1 rfl (lv_at3 hl) ?_
  refine pS hC hK hl (m_hasOwn03 l G) si_X12_360 rfl rfl (Nat.le_of_ble_eq_true rfl) rm_48_1_2 ⟨by first | exact Nat.le_of_ble_eq_true rfl | exact Nat.zero_le _, by first | exact Nat.le_of_ble_eq_true rfl | exact Nat.zero_le _⟩ gX12_bodyFrom_0.2.2.2.2.1 (Keqr ?_)
  refine lv_if_ne (tgt := 22) hx hb gX12_bodyFrom_0.2.2.2.2.2.1 (by decide) (fun _ => ?_) (fun c9 => absurd c9 (by decide))
  refine lv_aload_n hx hb gX12_bodyFrom_1.1 rfl (lv_at1 hl) ?_
  refine lv_iload hx hb gX12_bodyFrom_1.2.1 (lv_at0 hl) ?_
  refine lv_iload_n hx hb gX12_bodyFrom_1.2.2.1 rfl (lv_at3 hl) ?_
  refine lv_iload_n hx hb gX12_bodyFrom_1.2.2.2.1 rfl (lv_at4 hl) ?_
  refine iV (wr := []) hC hK hl hP hD hS hA (m_body03 l G h0 xx nw nk mhasKept nt mtaped nr mrowMany mroundOf mroundFrom mouts nm mfromHour mtoHour ns mfrom mto msort misFault mdeep mcoded mlines nl nc nF np ntr nb mbestCost nso nsi nit nsh nsf nss nrc jr jd mnumber mwhose msize misParted fnrc (hjr) (hjd)) si_X12_363 [0, 1] [] sm_0_1 fm_0_1 nd_0_1 rfl rfl (by decide) rfl rfl rfl rfl rfl (Nat.le_of_ble_eq_true rfl) rm_48_39_6 ⟨Nat.le_of_ble_eq_true rfl, Nat.le_of_ble_eq_true rfl⟩ gX12_bodyFrom_1.2.2.2.2.1 (fun r6685 => Ktu3 fun jr16687 ip16688 gtrc6689 => ?_)
  intro H locs hr6685 hP hD hS
  try dsimp only at hr6685
  refine Kpdr (ws := [(h0, oX12 nw nk mhasKept nt mtaped nr mrowMany mroundOf mroundFrom mouts nm mfromHour mtoHour ns mfrom mto msort misFault mdeep mcoded mlines nl nc nF np ntr nb mbestCost nso nsi nit nsh nsf nss nrc (nI jr16687) (nI jd) mnumber mwhose msize ip16688), (nrc, iA G 30 gtrc6689)]) hP hD (fun hP hD => ?_)
  obtain ⟨hr6685, w6690⟩ := hr6685
  refine toQ hQ0 ?_
  exact RI (v := r6685) hC hP hD hS [0, 1] (jr16687, ip16688, gtrc6689) rfl rfl (by decide) (⟨trivial, by omega⟩) rfl gX12_bodyFrom_1.2.2.2.2.2
def K_m_from43 (l : Launch) (G : GG) (h0 : Nat) (xx : Int32) (nw : Nat) (nk : Nat) (mhasKept : Int32) (nt : Nat) (mtaped : Int32) (nr : Nat) (mrowMany : Int32) (mroundOf : Int32) (mroundFrom : Int32) (mouts : Int32) (nm : Nat) (mfromHour : Int32) (mtoHour : Int32) (ns : Nat) (mfrom : Int32) (mto : Int32) (msort : Int32) (misFault : Int32) (mdeep : Int32) (mcoded : Int32) (mlines : Int32) (nl : Nat) (nc : Nat) (nF : Nat) (np : Nat) (ntr : Nat) (nb : Nat) (mbestCost : Int32) (nso : Nat) (nsi : Nat) (nit : Nat) (nsh : Nat) (nsf : Nat) (nss : Nat) (nrc : Nat) (jr : Nat) (jd : Nat) (mnumber : Int32) (mwhose : Int32) (msize : Int32) (misParted : Int32) (fnrc : Nat → Int32) : Prop := MI l G yX12_bodyFrom cX12_bodyFrom 5 (some .int) 48 0 0 [.ref h0, .int 4, .int 3, .int xx] [(h0, oX12 nw nk mhasKept nt mtaped nr mrowMany mroundOf mroundFrom mouts nm mfromHour mtoHour ns mfrom mto msort misFault mdeep mcoded mlines nl nc nF np ntr nb mbestCost nso nsi nit nsh nsf nss nrc (nI jr) (nI jd) mnumber mwhose msize misParted), (nrc, iA G 30 fnrc)] (fun (r : Int32) (u : Nat × Int32 × (Nat → Int32)) => (True) ∧ (u.1 ≤ 30)) (fun u : Nat × Int32 × (Nat → Int32) => [(h0, oX12 nw nk mhasKept nt mtaped nr mrowMany mroundOf mroundFrom mouts nm mfromHour mtoHour ns mfrom mto msort misFault mdeep mcoded mlines nl nc nF np ntr nb mbestCost nso nsi nit nsh nsf nss nrc (nI u.1) (nI jd) mnumber mwhose msize u.2.1), (nrc, iA G 30 u.2.2)])
set_option maxHeartbeats 4000000 in
set_option maxRecDepth 100000 in
theorem m_from43 (l : Launch) (G : GG) (h0 : Nat) (xx : Int32) (nw : Nat) (nk : Nat) (mhasKept : Int32) (nt : Nat) (mtaped : Int32) (nr : Nat) (mrowMany : Int32) (mroundOf : Int32) (mroundFrom : Int32) (mouts : Int32) (nm : Nat) (mfromHour : Int32) (mtoHour : Int32) (ns : Nat) (mfrom : Int32) (mto : Int32) (msort : Int32) (misFault : Int32) (mdeep : Int32) (mcoded : Int32) (mlines : Int32) (nl : Nat) (nc : Nat) (nF : Nat) (np : Nat) (ntr : Nat) (nb : Nat) (mbestCost : Int32) (nso : Nat) (nsi : Nat) (nit : Nat) (nsh : Nat) (nsf : Nat) (nss : Nat) (nrc : Nat) (jr : Nat) (jd : Nat) (mnumber : Int32) (mwhose : Int32) (msize : Int32) (misParted : Int32) (fnrc : Nat → Int32) (hjr : jr ≤ 30) (hjd : jd < 7) : K_m_from43 l G h0 xx nw nk mhasKept nt mtaped nr mrowMany mroundOf mroundFrom mouts nm mfromHour mtoHour ns mfrom mto msort misFault mdeep mcoded mlines nl nc nF np ntr nb mbestCost nso nsi nit nsh nsf nss nrc jr jd mnumber mwhose msize misParted fnrc := by
  refine MI.start (by decide +kernel) (Nat.le_of_ble_eq_true rfl) ?_
  intro p e s m below meth c A ls hC hK hP hD hS hA hl
  refine absQ (fun Q0 hQ0 => ?_)
  have hl : lv_has ls 5 [(0, .ref h0), (1, .int 4), (2, .int 3), (3, .int xx)] := hl
  refine Kan8 hC (fun hx hb hr hml hB hown hlocks hnm => ?_)
  refine lv_iload_n hx hb gX12_bodyFrom_0.1 rfl (lv_at1 hl) ?_
  refine lv_istore (lv' := [(4, .int 4), (0, .ref h0), (1, .int 4), (2, .int 3), (3, .int xx)]) hx hb gX12_bodyFrom_0.2.1 hl (by decide) rfl (fun ls hl => ?_)
  refine lv_iload hx hb gX12_bodyFrom_0.2.2.1 (lv_at0 hl) ?_
  refine lv_iload_n hx hb gX12_bodyFrom_0.2.2.2.1 rfl (lv_at3 hl) ?_
  refine pS hC hK hl (m_hasOwn43 l G) si_X12_360 rfl rfl (Nat.le_of_ble_eq_true rfl) rm_48_1_2 ⟨by first | exact Nat.le_of_ble_eq_true rfl | exact Nat.zero_le _, by first | exact Nat.le_of_ble_eq_true rfl | exact Nat.zero_le _⟩ gX12_bodyFrom_0.2.2.2.2.1 (Keqr ?_)
  refine lv_if_ne (tgt := 22) hx hb gX12_bodyFrom_0.2.2.2.2.2.1 (by decide) (fun c9 => absurd (by decide) c9) (fun _ => ?_)
  refine lv_iload hx hb gX12_bodyFrom_0.2.2.2.2.2.2.1 (lv_at0 hl) ?_
  refine pS hC hK hl (m_above4 l G) si_X12_348 rfl rfl (Nat.le_of_ble_eq_true rfl) rm_48_1_1 ⟨by first | exact Nat.le_of_ble_eq_true rfl | exact Nat.zero_le _, by first | exact Nat.le_of_ble_eq_true rfl | exact Nat.zero_le _⟩ gX12_bodyFrom_0.2.2.2.2.2.2.2.1 (Keqr ?_)
  refine lv_istore (lv' := [(4, .int 0), (0, .ref h0), (1, .int 4), (2, .int 3), (3, .int xx)]) hx hb gX12_bodyFrom_0.2.2.2.2.2.2.2.2.1 hl (by decide) rfl (fun ls hl => ?_)
  refine lv_goto (tgt := 3) hx hb gX12_bodyFrom_0.2.2.2.2.2.2.2.2.2 (by decide) ?_
  refine lv_iload hx hb gX12_bodyFrom_0.2.2.1 (lv_at0 hl) ?_
  refine lv_iload_n hx hb gX12_bodyFrom_0.2.2.2.1 rfl (lv_at3 hl) ?_
  refine pS hC hK hl (m_hasOwn03 l G) si_X12_360 rfl rfl (Nat.le_of_ble_eq_true rfl) rm_48_1_2 ⟨by first | exact Nat.le_of_ble_eq_true rfl | exact Nat.zero_le _, by first | exact Nat.le_of_ble_eq_true rfl | exact Nat.zero_le _⟩ gX12_bodyFrom_0.2.2.2.2.1 (Keqr ?_)
  refine lv_if_ne (tgt := 22) hx hb gX12_bodyFrom_0.2.2.2.2.2.1 (by decide) (fun _ => ?_) (fun c9 => absurd c9 (by decide))
  refine lv_aload_n hx hb gX12_bodyFrom_1.1 rfl (lv_at1 hl) ?_
  refine lv_iload hx hb gX12_bodyFrom_1.2.1 (lv_at0 hl) ?_
  refine lv_iload_n hx hb gX12_bodyFrom_1.2.2.1 rfl (lv_at3 hl) ?_
  refine lv_iload_n hx hb gX12_bodyFrom_1.2.2.2.1 rfl (lv_at4 hl) ?_
  refine iV (wr := []) hC hK hl hP hD hS hA (m_body03 l G h0 xx nw nk mhasKept nt mtaped nr mrowMany mroundOf mroundFrom mouts nm mfromHour mtoHour ns mfrom mto msort misFault mdeep mcoded mlines nl nc nF np ntr nb mbestCost nso nsi nit nsh nsf nss nrc jr jd mnumber mwhose msize misParted fnrc (hjr) (hjd)) si_X12_363 [0, 1] [] sm_0_1 fm_0_1 nd_0_1 rfl rfl (by decide) rfl rfl rfl rfl rfl (Nat.le_of_ble_eq_true rfl) rm_48_39_6 ⟨Nat.le_of_ble_eq_true rfl, Nat.le_of_ble_eq_true rfl⟩ gX12_bodyFrom_1.2.2.2.2.1 (fun r6697 => Ktu3 fun jr16699 ip16700 gtrc6701 => ?_)
  intro H locs hr6697 hP hD hS
  try dsimp only at hr6697
  refine Kpdr (ws := [(h0, oX12 nw nk mhasKept nt mtaped nr mrowMany mroundOf mroundFrom mouts nm mfromHour mtoHour ns mfrom mto msort misFault mdeep mcoded mlines nl nc nF np ntr nb mbestCost nso nsi nit nsh nsf nss nrc (nI jr16699) (nI jd) mnumber mwhose msize ip16700), (nrc, iA G 30 gtrc6701)]) hP hD (fun hP hD => ?_)
  obtain ⟨hr6697, w6702⟩ := hr6697
  refine toQ hQ0 ?_
  exact RI (v := r6697) hC hP hD hS [0, 1] (jr16699, ip16700, gtrc6701) rfl rfl (by decide) (⟨trivial, by omega⟩) rfl gX12_bodyFrom_1.2.2.2.2.2
def K_m_from53 (l : Launch) (G : GG) (h0 : Nat) (xx : Int32) (nw : Nat) (nk : Nat) (mhasKept : Int32) (nt : Nat) (mtaped : Int32) (nr : Nat) (mrowMany : Int32) (mroundOf : Int32) (mroundFrom : Int32) (mouts : Int32) (nm : Nat) (mfromHour : Int32) (mtoHour : Int32) (ns : Nat) (mfrom : Int32) (mto : Int32) (msort : Int32) (misFault : Int32) (mdeep : Int32) (mcoded : Int32) (mlines : Int32) (nl : Nat) (nc : Nat) (nF : Nat) (np : Nat) (ntr : Nat) (nb : Nat) (mbestCost : Int32) (nso : Nat) (nsi : Nat) (nit : Nat) (nsh : Nat) (nsf : Nat) (nss : Nat) (nrc : Nat) (jr : Nat) (jd : Nat) (mnumber : Int32) (mwhose : Int32) (msize : Int32) (misParted : Int32) (fnrc : Nat → Int32) : Prop := MI l G yX12_bodyFrom cX12_bodyFrom 5 (some .int) 48 0 0 [.ref h0, .int 5, .int 3, .int xx] [(h0, oX12 nw nk mhasKept nt mtaped nr mrowMany mroundOf mroundFrom mouts nm mfromHour mtoHour ns mfrom mto msort misFault mdeep mcoded mlines nl nc nF np ntr nb mbestCost nso nsi nit nsh nsf nss nrc (nI jr) (nI jd) mnumber mwhose msize misParted), (nrc, iA G 30 fnrc)] (fun (r : Int32) (u : Nat × Int32 × (Nat → Int32)) => (True) ∧ (u.1 ≤ 30)) (fun u : Nat × Int32 × (Nat → Int32) => [(h0, oX12 nw nk mhasKept nt mtaped nr mrowMany mroundOf mroundFrom mouts nm mfromHour mtoHour ns mfrom mto msort misFault mdeep mcoded mlines nl nc nF np ntr nb mbestCost nso nsi nit nsh nsf nss nrc (nI u.1) (nI jd) mnumber mwhose msize u.2.1), (nrc, iA G 30 u.2.2)])
set_option maxHeartbeats 4000000 in
set_option maxRecDepth 100000 in
theorem m_from53 (l : Launch) (G : GG) (h0 : Nat) (xx : Int32) (nw : Nat) (nk : Nat) (mhasKept : Int32) (nt : Nat) (mtaped : Int32) (nr : Nat) (mrowMany : Int32) (mroundOf : Int32) (mroundFrom : Int32) (mouts : Int32) (nm : Nat) (mfromHour : Int32) (mtoHour : Int32) (ns : Nat) (mfrom : Int32) (mto : Int32) (msort : Int32) (misFault : Int32) (mdeep : Int32) (mcoded : Int32) (mlines : Int32) (nl : Nat) (nc : Nat) (nF : Nat) (np : Nat) (ntr : Nat) (nb : Nat) (mbestCost : Int32) (nso : Nat) (nsi : Nat) (nit : Nat) (nsh : Nat) (nsf : Nat) (nss : Nat) (nrc : Nat) (jr : Nat) (jd : Nat) (mnumber : Int32) (mwhose : Int32) (msize : Int32) (misParted : Int32) (fnrc : Nat → Int32) (hjr : jr ≤ 30) (hjd : jd < 7) : K_m_from53 l G h0 xx nw nk mhasKept nt mtaped nr mrowMany mroundOf mroundFrom mouts nm mfromHour mtoHour ns mfrom mto msort misFault mdeep mcoded mlines nl nc nF np ntr nb mbestCost nso nsi nit nsh nsf nss nrc jr jd mnumber mwhose msize misParted fnrc := by
  refine MI.start (by decide +kernel) (Nat.le_of_ble_eq_true rfl) ?_
  intro p e s m below meth c A ls hC hK hP hD hS hA hl
  refine absQ (fun Q0 hQ0 => ?_)
  have hl : lv_has ls 5 [(0, .ref h0), (1, .int 5), (2, .int 3), (3, .int xx)] := hl
  refine Kan8 hC (fun hx hb hr hml hB hown hlocks hnm => ?_)
  refine lv_iload_n hx hb gX12_bodyFrom_0.1 rfl (lv_at1 hl) ?_
  refine lv_istore (lv' := [(4, .int 5), (0, .ref h0), (1, .int 5), (2, .int 3), (3, .int xx)]) hx hb gX12_bodyFrom_0.2.1 hl (by decide) rfl (fun ls hl => ?_)
  refine lv_iload hx hb gX12_bodyFrom_0.2.2.1 (lv_at0 hl) ?_
  refine lv_iload_n hx hb gX12_bodyFrom_0.2.2.2.1 rfl (lv_at3 hl) ?_
  refine pS hC hK hl (m_hasOwn53 l G) si_X12_360 rfl rfl (Nat.le_of_ble_eq_true rfl) rm_48_1_2 ⟨by first | exact Nat.le_of_ble_eq_true rfl | exact Nat.zero_le _, by first | exact Nat.le_of_ble_eq_true rfl | exact Nat.zero_le _⟩ gX12_bodyFrom_0.2.2.2.2.1 (Keqr ?_)
  refine lv_if_ne (tgt := 22) hx hb gX12_bodyFrom_0.2.2.2.2.2.1 (by decide) (fun c9 => absurd (by decide) c9) (fun _ => ?_)
  refine lv_iload hx hb gX12_bodyFrom_0.2.2.2.2.2.2.1 (lv_at0 hl) ?_
  refine pS hC hK hl (m_above5 l G) si_X12_348 rfl rfl (Nat.le_of_ble_eq_true rfl) rm_48_1_1 ⟨by first | exact Nat.le_of_ble_eq_true rfl | exact Nat.zero_le _, by first | exact Nat.le_of_ble_eq_true rfl | exact Nat.zero_le _⟩ gX12_bodyFrom_0.2.2.2.2.2.2.2.1 (Keqr ?_)
  refine lv_istore (lv' := [(4, .int 4), (0, .ref h0), (1, .int 5), (2, .int 3), (3, .int xx)]) hx hb gX12_bodyFrom_0.2.2.2.2.2.2.2.2.1 hl (by decide) rfl (fun ls hl => ?_)
  refine lv_goto (tgt := 3) hx hb gX12_bodyFrom_0.2.2.2.2.2.2.2.2.2 (by decide) ?_
  refine lv_iload hx hb gX12_bodyFrom_0.2.2.1 (lv_at0 hl) ?_
  refine lv_iload_n hx hb gX12_bodyFrom_0.2.2.2.1 rfl (lv_at3 hl) ?_
  refine pS hC hK hl (m_hasOwn43 l G) si_X12_360 rfl rfl (Nat.le_of_ble_eq_true rfl) rm_48_1_2 ⟨by first | exact Nat.le_of_ble_eq_true rfl | exact Nat.zero_le _, by first | exact Nat.le_of_ble_eq_true rfl | exact Nat.zero_le _⟩ gX12_bodyFrom_0.2.2.2.2.1 (Keqr ?_)
  refine lv_if_ne (tgt := 22) hx hb gX12_bodyFrom_0.2.2.2.2.2.1 (by decide) (fun c9 => absurd (by decide) c9) (fun _ => ?_)
  refine lv_iload hx hb gX12_bodyFrom_0.2.2.2.2.2.2.1 (lv_at0 hl) ?_
  refine pS hC hK hl (m_above4 l G) si_X12_348 rfl rfl (Nat.le_of_ble_eq_true rfl) rm_48_1_1 ⟨by first | exact Nat.le_of_ble_eq_true rfl | exact Nat.zero_le _, by first | exact Nat.le_of_ble_eq_true rfl | exact Nat.zero_le _⟩ gX12_bodyFrom_0.2.2.2.2.2.2.2.1 (Keqr ?_)
  refine lv_istore (lv' := [(4, .int 0), (0, .ref h0), (1, .int 5), (2, .int 3), (3, .int xx)]) hx hb gX12_bodyFrom_0.2.2.2.2.2.2.2.2.1 hl (by decide) rfl (fun ls hl => ?_)
  refine lv_goto (tgt := 3) hx hb gX12_bodyFrom_0.2.2.2.2.2.2.2.2.2 (by decide) ?_
  refine lv_iload hx hb gX12_bodyFrom_0.2.2.1 (lv_at0 hl) ?_
  refine lv_iload_n hx hb gX12_bodyFrom_0.2.2.2.1 rfl (lv_at3 hl) ?_
  refine pS hC hK hl (m_hasOwn03 l G) si_X12_360 rfl rfl (Nat.le_of_ble_eq_true rfl) rm_48_1_2 ⟨by first | exact Nat.le_of_ble_eq_true rfl | exact Nat.zero_le _, by first | exact Nat.le_of_ble_eq_true rfl | exact Nat.zero_le _⟩ gX12_bodyFrom_0.2.2.2.2.1 (Keqr ?_)
  refine lv_if_ne (tgt := 22) hx hb gX12_bodyFrom_0.2.2.2.2.2.1 (by decide) (fun _ => ?_) (fun c9 => absurd c9 (by decide))
  refine lv_aload_n hx hb gX12_bodyFrom_1.1 rfl (lv_at1 hl) ?_
  refine lv_iload hx hb gX12_bodyFrom_1.2.1 (lv_at0 hl) ?_
  refine lv_iload_n hx hb gX12_bodyFrom_1.2.2.1 rfl (lv_at3 hl) ?_
  refine lv_iload_n hx hb gX12_bodyFrom_1.2.2.2.1 rfl (lv_at4 hl) ?_
  refine iV (wr := []) hC hK hl hP hD hS hA (m_body03 l G h0 xx nw nk mhasKept nt mtaped nr mrowMany mroundOf mroundFrom mouts nm mfromHour mtoHour ns mfrom mto msort misFault mdeep mcoded mlines nl nc nF np ntr nb mbestCost nso nsi nit nsh nsf nss nrc jr jd mnumber mwhose msize misParted fnrc (hjr) (hjd)) si_X12_363 [0, 1] [] sm_0_1 fm_0_1 nd_0_1 rfl rfl (by decide) rfl rfl rfl rfl rfl (Nat.le_of_ble_eq_true rfl) rm_48_39_6 ⟨Nat.le_of_ble_eq_true rfl, Nat.le_of_ble_eq_true rfl⟩ gX12_bodyFrom_1.2.2.2.2.1 (fun r6713 => Ktu3 fun jr16715 ip16716 gtrc6717 => ?_)
  intro H locs hr6713 hP hD hS
  try dsimp only at hr6713
  refine Kpdr (ws := [(h0, oX12 nw nk mhasKept nt mtaped nr mrowMany mroundOf mroundFrom mouts nm mfromHour mtoHour ns mfrom mto msort misFault mdeep mcoded mlines nl nc nF np ntr nb mbestCost nso nsi nit nsh nsf nss nrc (nI jr16715) (nI jd) mnumber mwhose msize ip16716), (nrc, iA G 30 gtrc6717)]) hP hD (fun hP hD => ?_)
  obtain ⟨hr6713, w6718⟩ := hr6713
  refine toQ hQ0 ?_
  exact RI (v := r6713) hC hP hD hS [0, 1] (jr16715, ip16716, gtrc6717) rfl rfl (by decide) (⟨trivial, by omega⟩) rfl gX12_bodyFrom_1.2.2.2.2.2
def K_m_dealt3 (l : Launch) (G : GG) (h0 : Nat) (xx : Int32) (nw : Nat) (nk : Nat) (mhasKept : Int32) (nt : Nat) (mtaped : Int32) (nr : Nat) (mrowMany : Int32) (mroundOf : Int32) (mroundFrom : Int32) (mouts : Int32) (nm : Nat) (mfromHour : Int32) (mtoHour : Int32) (ns : Nat) (mfrom : Int32) (mto : Int32) (msort : Int32) (misFault : Int32) (mdeep : Int32) (mcoded : Int32) (mlines : Int32) (nl : Nat) (nc : Nat) (nF : Nat) (np : Nat) (ntr : Nat) (nb : Nat) (mbestCost : Int32) (nso : Nat) (nsi : Nat) (nit : Nat) (nsh : Nat) (nsf : Nat) (nss : Nat) (nrc : Nat) (jr : Nat) (jd : Nat) (mnumber : Int32) (mwhose : Int32) (msize : Int32) (misParted : Int32) (fnrc : Nat → Int32) : Prop := MI l G yX12_dealt cX12_dealt 3 (some .int) 50 0 0 [.ref h0, .int 3, .int xx] [(h0, oX12 nw nk mhasKept nt mtaped nr mrowMany mroundOf mroundFrom mouts nm mfromHour mtoHour ns mfrom mto msort misFault mdeep mcoded mlines nl nc nF np ntr nb mbestCost nso nsi nit nsh nsf nss nrc (nI jr) (nI jd) mnumber mwhose msize misParted), (nrc, iA G 30 fnrc)] (fun (r : Int32) (u : Nat × Int32 × (Nat → Int32)) => (True) ∧ (u.1 ≤ 30)) (fun u : Nat × Int32 × (Nat → Int32) => [(h0, oX12 nw nk mhasKept nt mtaped nr mrowMany mroundOf mroundFrom mouts nm mfromHour mtoHour ns mfrom mto msort misFault mdeep mcoded mlines nl nc nF np ntr nb mbestCost nso nsi nit nsh nsf nss nrc (nI u.1) (nI jd) mnumber mwhose msize u.2.1), (nrc, iA G 30 u.2.2)])
set_option maxHeartbeats 4000000 in
set_option maxRecDepth 100000 in
theorem m_dealt3 (l : Launch) (G : GG) (h0 : Nat) (xx : Int32) (nw : Nat) (nk : Nat) (mhasKept : Int32) (nt : Nat) (mtaped : Int32) (nr : Nat) (mrowMany : Int32) (mroundOf : Int32) (mroundFrom : Int32) (mouts : Int32) (nm : Nat) (mfromHour : Int32) (mtoHour : Int32) (ns : Nat) (mfrom : Int32) (mto : Int32) (msort : Int32) (misFault : Int32) (mdeep : Int32) (mcoded : Int32) (mlines : Int32) (nl : Nat) (nc : Nat) (nF : Nat) (np : Nat) (ntr : Nat) (nb : Nat) (mbestCost : Int32) (nso : Nat) (nsi : Nat) (nit : Nat) (nsh : Nat) (nsf : Nat) (nss : Nat) (nrc : Nat) (jr : Nat) (jd : Nat) (mnumber : Int32) (mwhose : Int32) (msize : Int32) (misParted : Int32) (fnrc : Nat → Int32) (hjr : jr ≤ 30) (hjd : jd < 7) : K_m_dealt3 l G h0 xx nw nk mhasKept nt mtaped nr mrowMany mroundOf mroundFrom mouts nm mfromHour mtoHour ns mfrom mto msort misFault mdeep mcoded mlines nl nc nF np ntr nb mbestCost nso nsi nit nsh nsf nss nrc jr jd mnumber mwhose msize misParted fnrc := by
  refine MI.start (by decide +kernel) (Nat.le_of_ble_eq_true rfl) ?_
  intro p e s m below meth c A ls hC hK hP hD hS hA hl
  refine absQ (fun Q0 hQ0 => ?_)
  have hl : lv_has ls 3 [(0, .ref h0), (1, .int 3), (2, .int xx)] := hl
  refine Kan8 hC (fun hx hb hr hml hB hown hlocks hnm => ?_)
  refine lv_aload_n hx hb gX12_dealt_0.1 rfl (lv_at0 hl) ?_
  refine lv_aload_n hx hb gX12_dealt_0.2.1 rfl (lv_at0 hl) ?_
  refine gf_X12_354 hC rfl hK hP 0 rfl rfl gX12_dealt_0.2.2.1 ?_
  refine lv_iload_n hx hb gX12_dealt_0.2.2.2.1 rfl (lv_at1 hl) ?_
  refine lv_iload_n hx hb gX12_dealt_0.2.2.2.2.1 rfl (lv_at2 hl) ?_
  rcases (show jd = 0 ∨ jd = 1 ∨ jd = 2 ∨ jd = 3 ∨ jd = 4 ∨ jd = 5 ∨ jd = 6 by omega) with rfl | rfl | rfl | rfl | rfl | rfl | rfl
  · refine iV (wr := []) hC hK hl hP hD hS hA (m_from03 l G h0 xx nw nk mhasKept nt mtaped nr mrowMany mroundOf mroundFrom mouts nm mfromHour mtoHour ns mfrom mto msort misFault mdeep mcoded mlines nl nc nF np ntr nb mbestCost nso nsi nit nsh nsf nss nrc jr 0 mnumber mwhose msize misParted fnrc (hjr) (hjd)) si_X12_357 [0, 1] [] sm_0_1 fm_0_1 nd_0_1 rfl rfl (by decide) rfl rfl rfl rfl rfl (Nat.le_of_ble_eq_true rfl) rm_50_40_5 ⟨Nat.le_of_ble_eq_true rfl, Nat.le_of_ble_eq_true rfl⟩ gX12_dealt_0.2.2.2.2.2.1 (fun r6719 => Ktu3 fun jr16721 ip16722 gtrc6723 => ?_)
    intro H locs hr6719 hP hD hS
    try dsimp only at hr6719
    refine Kpdr (ws := [(h0, oX12 nw nk mhasKept nt mtaped nr mrowMany mroundOf mroundFrom mouts nm mfromHour mtoHour ns mfrom mto msort misFault mdeep mcoded mlines nl nc nF np ntr nb mbestCost nso nsi nit nsh nsf nss nrc (nI jr16721) 0 mnumber mwhose msize ip16722), (nrc, iA G 30 gtrc6723)]) hP hD (fun hP hD => ?_)
    obtain ⟨hr6719, w6724⟩ := hr6719
    refine toQ hQ0 ?_
    exact RI (v := r6719) hC hP hD hS [0, 1] (jr16721, ip16722, gtrc6723) rfl rfl (by decide) (⟨trivial, by omega⟩) rfl gX12_dealt_0.2.2.2.2.2.2
  · refine iV (wr := []) hC hK hl hP hD hS hA (m_from13 l G h0 xx nw nk mhasKept nt mtaped nr mrowMany mroundOf mroundFrom mouts nm mfromHour mtoHour ns mfrom mto msort misFault mdeep mcoded mlines nl nc nF np ntr nb mbestCost nso nsi nit nsh nsf nss nrc jr 1 mnumber mwhose msize misParted fnrc (hjr) (hjd)) si_X12_357 [0, 1] [] sm_0_1 fm_0_1 nd_0_1 rfl rfl (by decide) rfl rfl rfl rfl rfl (Nat.le_of_ble_eq_true rfl) rm_50_42_5 ⟨Nat.le_of_ble_eq_true rfl, Nat.le_of_ble_eq_true rfl⟩ gX12_dealt_0.2.2.2.2.2.1 (fun r6725 => Ktu3 fun jr16727 ip16728 gtrc6729 => ?_)
    intro H locs hr6725 hP hD hS
    try dsimp only at hr6725
    refine Kpdr (ws := [(h0, oX12 nw nk mhasKept nt mtaped nr mrowMany mroundOf mroundFrom mouts nm mfromHour mtoHour ns mfrom mto msort misFault mdeep mcoded mlines nl nc nF np ntr nb mbestCost nso nsi nit nsh nsf nss nrc (nI jr16727) 1 mnumber mwhose msize ip16728), (nrc, iA G 30 gtrc6729)]) hP hD (fun hP hD => ?_)
    obtain ⟨hr6725, w6730⟩ := hr6725
    refine toQ hQ0 ?_
    exact RI (v := r6725) hC hP hD hS [0, 1] (jr16727, ip16728, gtrc6729) rfl rfl (by decide) (⟨trivial, by omega⟩) rfl gX12_dealt_0.2.2.2.2.2.2
  · refine iV (wr := []) hC hK hl hP hD hS hA (m_from23 l G h0 xx nw nk mhasKept nt mtaped nr mrowMany mroundOf mroundFrom mouts nm mfromHour mtoHour ns mfrom mto msort misFault mdeep mcoded mlines nl nc nF np ntr nb mbestCost nso nsi nit nsh nsf nss nrc jr 2 mnumber mwhose msize misParted fnrc (hjr) (hjd)) si_X12_357 [0, 1] [] sm_0_1 fm_0_1 nd_0_1 rfl rfl (by decide) rfl rfl rfl rfl rfl (Nat.le_of_ble_eq_true rfl) rm_50_48_5 ⟨Nat.le_of_ble_eq_true rfl, Nat.le_of_ble_eq_true rfl⟩ gX12_dealt_0.2.2.2.2.2.1 (fun r6731 => Ktu3 fun jr16733 ip16734 gtrc6735 => ?_)
    intro H locs hr6731 hP hD hS
    try dsimp only at hr6731
    refine Kpdr (ws := [(h0, oX12 nw nk mhasKept nt mtaped nr mrowMany mroundOf mroundFrom mouts nm mfromHour mtoHour ns mfrom mto msort misFault mdeep mcoded mlines nl nc nF np ntr nb mbestCost nso nsi nit nsh nsf nss nrc (nI jr16733) 2 mnumber mwhose msize ip16734), (nrc, iA G 30 gtrc6735)]) hP hD (fun hP hD => ?_)
    obtain ⟨hr6731, w6736⟩ := hr6731
    refine toQ hQ0 ?_
    exact RI (v := r6731) hC hP hD hS [0, 1] (jr16733, ip16734, gtrc6735) rfl rfl (by decide) (⟨trivial, by omega⟩) rfl gX12_dealt_0.2.2.2.2.2.2
  · refine iV (wr := []) hC hK hl hP hD hS hA (m_from33 l G h0 xx nw nk mhasKept nt mtaped nr mrowMany mroundOf mroundFrom mouts nm mfromHour mtoHour ns mfrom mto msort misFault mdeep mcoded mlines nl nc nF np ntr nb mbestCost nso nsi nit nsh nsf nss nrc jr 3 mnumber mwhose msize misParted fnrc (hjr) (hjd)) si_X12_357 [0, 1] [] sm_0_1 fm_0_1 nd_0_1 rfl rfl (by decide) rfl rfl rfl rfl rfl (Nat.le_of_ble_eq_true rfl) rm_50_44_5 ⟨Nat.le_of_ble_eq_true rfl, Nat.le_of_ble_eq_true rfl⟩ gX12_dealt_0.2.2.2.2.2.1 (fun r6737 => Ktu3 fun jr16739 ip16740 gtrc6741 => ?_)
    intro H locs hr6737 hP hD hS
    try dsimp only at hr6737
    refine Kpdr (ws := [(h0, oX12 nw nk mhasKept nt mtaped nr mrowMany mroundOf mroundFrom mouts nm mfromHour mtoHour ns mfrom mto msort misFault mdeep mcoded mlines nl nc nF np ntr nb mbestCost nso nsi nit nsh nsf nss nrc (nI jr16739) 3 mnumber mwhose msize ip16740), (nrc, iA G 30 gtrc6741)]) hP hD (fun hP hD => ?_)
    obtain ⟨hr6737, w6742⟩ := hr6737
    refine toQ hQ0 ?_
    exact RI (v := r6737) hC hP hD hS [0, 1] (jr16739, ip16740, gtrc6741) rfl rfl (by decide) (⟨trivial, by omega⟩) rfl gX12_dealt_0.2.2.2.2.2.2
  · refine iV (wr := []) hC hK hl hP hD hS hA (m_from43 l G h0 xx nw nk mhasKept nt mtaped nr mrowMany mroundOf mroundFrom mouts nm mfromHour mtoHour ns mfrom mto msort misFault mdeep mcoded mlines nl nc nF np ntr nb mbestCost nso nsi nit nsh nsf nss nrc jr 4 mnumber mwhose msize misParted fnrc (hjr) (hjd)) si_X12_357 [0, 1] [] sm_0_1 fm_0_1 nd_0_1 rfl rfl (by decide) rfl rfl rfl rfl rfl (Nat.le_of_ble_eq_true rfl) rm_50_48_5 ⟨Nat.le_of_ble_eq_true rfl, Nat.le_of_ble_eq_true rfl⟩ gX12_dealt_0.2.2.2.2.2.1 (fun r6743 => Ktu3 fun jr16745 ip16746 gtrc6747 => ?_)
    intro H locs hr6743 hP hD hS
    try dsimp only at hr6743
    refine Kpdr (ws := [(h0, oX12 nw nk mhasKept nt mtaped nr mrowMany mroundOf mroundFrom mouts nm mfromHour mtoHour ns mfrom mto msort misFault mdeep mcoded mlines nl nc nF np ntr nb mbestCost nso nsi nit nsh nsf nss nrc (nI jr16745) 4 mnumber mwhose msize ip16746), (nrc, iA G 30 gtrc6747)]) hP hD (fun hP hD => ?_)
    obtain ⟨hr6743, w6748⟩ := hr6743
    refine toQ hQ0 ?_
    exact RI (v := r6743) hC hP hD hS [0, 1] (jr16745, ip16746, gtrc6747) rfl rfl (by decide) (⟨trivial, by omega⟩) rfl gX12_dealt_0.2.2.2.2.2.2
  · refine iV (wr := []) hC hK hl hP hD hS hA (m_from53 l G h0 xx nw nk mhasKept nt mtaped nr mrowMany mroundOf mroundFrom mouts nm mfromHour mtoHour ns mfrom mto msort misFault mdeep mcoded mlines nl nc nF np ntr nb mbestCost nso nsi nit nsh nsf nss nrc jr 5 mnumber mwhose msize misParted fnrc (hjr) (hjd)) si_X12_357 [0, 1] [] sm_0_1 fm_0_1 nd_0_1 rfl rfl (by decide) rfl rfl rfl rfl rfl (Nat.le_of_ble_eq_true rfl) rm_50_48_5 ⟨Nat.le_of_ble_eq_true rfl, Nat.le_of_ble_eq_true rfl⟩ gX12_dealt_0.2.2.2.2.2.1 (fun r6749 => Ktu3 fun jr16751 ip16752 gtrc6753 => ?_)
    intro H locs hr6749 hP hD hS
    try dsimp only at hr6749
    refine Kpdr (ws := [(h0, oX12 nw nk mhasKept nt mtaped nr mrowMany mroundOf mroundFrom mouts nm mfromHour mtoHour ns mfrom mto msort misFault mdeep mcoded mlines nl nc nF np ntr nb mbestCost nso nsi nit nsh nsf nss nrc (nI jr16751) 5 mnumber mwhose msize ip16752), (nrc, iA G 30 gtrc6753)]) hP hD (fun hP hD => ?_)
    obtain ⟨hr6749, w6754⟩ := hr6749
    refine toQ hQ0 ?_
    exact RI (v := r6749) hC hP hD hS [0, 1] (jr16751, ip16752, gtrc6753) rfl rfl (by decide) (⟨trivial, by omega⟩) rfl gX12_dealt_0.2.2.2.2.2.2
  · refine iV (wr := []) hC hK hl hP hD hS hA (m_from63 l G h0 xx nw nk mhasKept nt mtaped nr mrowMany mroundOf mroundFrom mouts nm mfromHour mtoHour ns mfrom mto msort misFault mdeep mcoded mlines nl nc nF np ntr nb mbestCost nso nsi nit nsh nsf nss nrc jr 6 mnumber mwhose msize misParted fnrc (hjr) (hjd)) si_X12_357 [0, 1] [] sm_0_1 fm_0_1 nd_0_1 rfl rfl (by decide) rfl rfl rfl rfl rfl (Nat.le_of_ble_eq_true rfl) rm_50_46_5 ⟨Nat.le_of_ble_eq_true rfl, Nat.le_of_ble_eq_true rfl⟩ gX12_dealt_0.2.2.2.2.2.1 (fun r6755 => Ktu3 fun jr16757 ip16758 gtrc6759 => ?_)
    intro H locs hr6755 hP hD hS
    try dsimp only at hr6755
    refine Kpdr (ws := [(h0, oX12 nw nk mhasKept nt mtaped nr mrowMany mroundOf mroundFrom mouts nm mfromHour mtoHour ns mfrom mto msort misFault mdeep mcoded mlines nl nc nF np ntr nb mbestCost nso nsi nit nsh nsf nss nrc (nI jr16757) 6 mnumber mwhose msize ip16758), (nrc, iA G 30 gtrc6759)]) hP hD (fun hP hD => ?_)
    obtain ⟨hr6755, w6760⟩ := hr6755
    refine toQ hQ0 ?_
    exact RI (v := r6755) hC hP hD hS [0, 1] (jr16757, ip16758, gtrc6759) rfl rfl (by decide) (⟨trivial, by omega⟩) rfl gX12_dealt_0.2.2.2.2.2.2
def K_w_deal (l : Launch) (G : GG) (h0 : Nat) (x1 : Int32) (x2 : Int32) (x3 : Int32) (nw : Nat) (nk : Nat) (mhasKept : Int32) (nt : Nat) (mtaped : Int32) (nr : Nat) (mrowMany : Int32) (mroundOf : Int32) (mroundFrom : Int32) (mouts : Int32) (nm : Nat) (mfromHour : Int32) (mtoHour : Int32) (ns : Nat) (mfrom : Int32) (mto : Int32) (msort : Int32) (misFault : Int32) (mdeep : Int32) (mcoded : Int32) (mlines : Int32) (nl : Nat) (nc : Nat) (nF : Nat) (np : Nat) (ntr : Nat) (nb : Nat) (mbestCost : Int32) (nso : Nat) (nsi : Nat) (nit : Nat) (nsh : Nat) (nsf : Nat) (nss : Nat) (nrc : Nat) (mtraced : Int32) (mdealer : Int32) (mnumber : Int32) (mwhose : Int32) (msize : Int32) (misParted : Int32) (fnw : Nat → Int32) (fnsh : Nat → Int32) (fnsf : Nat → Int32) (fnrc : Nat → Int32) : Prop := MI l G yX12_deal cX12_deal 8 (some .int) 60 0 0 [.ref h0, .int x1, .int x2, .int x3] [(h0, oX12 nw nk mhasKept nt mtaped nr mrowMany mroundOf mroundFrom mouts nm mfromHour mtoHour ns mfrom mto msort misFault mdeep mcoded mlines nl nc nF np ntr nb mbestCost nso nsi nit nsh nsf nss nrc mtraced mdealer mnumber mwhose msize misParted), (nw, iA G 1662 fnw), (nsh, iA G 4 fnsh), (nsf, iA G 4 fnsf), (nrc, iA G 30 fnrc)] (fun (r : Int32) (u : Nat × Int32 × Int32 × Int32 × Int32 × Int32 × (Nat → Int32)) => (True) ∧ (u.1 ≤ 30)) (fun u : Nat × Int32 × Int32 × Int32 × Int32 × Int32 × (Nat → Int32) => [(h0, oX12 nw nk mhasKept nt mtaped nr mrowMany mroundOf mroundFrom mouts nm mfromHour mtoHour ns mfrom mto msort misFault mdeep mcoded mlines nl nc nF np ntr nb mbestCost nso nsi nit nsh nsf nss nrc (nI u.1) u.2.1 u.2.2.1 u.2.2.2.1 u.2.2.2.2.1 u.2.2.2.2.2.1), (nw, iA G 1662 fnw), (nsh, iA G 4 fnsh), (nsf, iA G 4 fnsf), (nrc, iA G 30 u.2.2.2.2.2.2)])
set_option maxHeartbeats 4000000 in
set_option maxRecDepth 100000 in
theorem w_deal (l : Launch) (G : GG) (h0 : Nat) (x1 : Int32) (x2 : Int32) (x3 : Int32) (nw : Nat) (nk : Nat) (mhasKept : Int32) (nt : Nat) (mtaped : Int32) (nr : Nat) (mrowMany : Int32) (mroundOf : Int32) (mroundFrom : Int32) (mouts : Int32) (nm : Nat) (mfromHour : Int32) (mtoHour : Int32) (ns : Nat) (mfrom : Int32) (mto : Int32) (msort : Int32) (misFault : Int32) (mdeep : Int32) (mcoded : Int32) (mlines : Int32) (nl : Nat) (nc : Nat) (nF : Nat) (np : Nat) (ntr : Nat) (nb : Nat) (mbestCost : Int32) (nso : Nat) (nsi : Nat) (nit : Nat) (nsh : Nat) (nsf : Nat) (nss : Nat) (nrc : Nat) (mtraced : Int32) (mdealer : Int32) (mnumber : Int32) (mwhose : Int32) (msize : Int32) (misParted : Int32) (fnw : Nat → Int32) (fnsh : Nat → Int32) (fnsf : Nat → Int32) (fnrc : Nat → Int32) (hN : NI fnw) : K_w_deal l G h0 x1 x2 x3 nw nk mhasKept nt mtaped nr mrowMany mroundOf mroundFrom mouts nm mfromHour mtoHour ns mfrom mto msort misFault mdeep mcoded mlines nl nc nF np ntr nb mbestCost nso nsi nit nsh nsf nss nrc mtraced mdealer mnumber mwhose msize misParted fnw fnsh fnsf fnrc := by
  refine MI.start (by decide +kernel) (Nat.le_of_ble_eq_true rfl) ?_
  intro p e s m below meth c A ls hC hK hP hD hS hA hl
  refine absQ (fun Q0 hQ0 => ?_)
  have hl : lv_has ls 8 [(0, .ref h0), (1, .int x1), (2, .int x2), (3, .int x3)] := hl
  refine Kan8 hC (fun hx hb hr hml hB hown hlocks hnm => ?_)
  refine lv_aload_n hx hb gX12_deal_0.1 rfl (lv_at0 hl) ?_
  refine lv_iconst (v := 0) hx hb gX12_deal_0.2.1 (by decide) ?_
  refine pf_X12_351 hC rfl hK hP hD hS 0 (ws' := [(h0, oX12 nw nk mhasKept nt mtaped nr mrowMany mroundOf mroundFrom mouts nm mfromHour mtoHour ns mfrom mto msort misFault mdeep mcoded mlines nl nc nF np ntr nb mbestCost nso nsi nit nsh nsf nss nrc 0 mdealer mnumber mwhose msize misParted), (nw, iA G 1662 fnw), (nsh, iA G 4 fnsh), (nsf, iA G 4 fnsf), (nrc, iA G 30 fnrc)]) rfl (Nat.le_of_ble_eq_true rfl) rfl rfl rfl gX12_deal_0.2.2.1 (fun H locs hP hD hS => ?_)
  refine lv_iload_n hx hb gX12_deal_0.2.2.2.1 rfl (lv_at1 hl) ?_
  refine pS hC hK hl (m_isFour l G x1) si_X12_336 rfl rfl (Nat.le_of_ble_eq_true rfl) rm_60_2_1 ⟨by first | exact Nat.le_of_ble_eq_true rfl | exact Nat.zero_le _, by first | exact Nat.le_of_ble_eq_true rfl | exact Nat.zero_le _⟩ gX12_deal_0.2.2.2.2.1 (Kors (Keqa fun a6762 => ?_) (Keqa fun a6762 => ?_))
  · refine lv_if_eq (tgt := 19) hx hb gX12_deal_0.2.2.2.2.2.1 (by decide) (fun c9 => absurd c9 (by decide)) (fun _ => ?_)
    refine lv_iload_n hx hb gX12_deal_0.2.2.2.2.2.2.1 rfl (lv_at2 hl) ?_
    refine pS hC hK hl (m_isFour l G x2) si_X12_336 rfl rfl (Nat.le_of_ble_eq_true rfl) rm_60_2_1 ⟨by first | exact Nat.le_of_ble_eq_true rfl | exact Nat.zero_le _, by first | exact Nat.le_of_ble_eq_true rfl | exact Nat.zero_le _⟩ gX12_deal_0.2.2.2.2.2.2.2.1 (Kors (Keqa fun a6764 => ?_) (Keqa fun a6764 => ?_))
    · refine lv_if_ne (tgt := 23) hx hb gX12_deal_0.2.2.2.2.2.2.2.2.1 (by decide) (fun _ => ?_) (fun c9 => absurd c9 (by decide))
      obtain ⟨jt, hjt, rfl⟩ := Wi_nat (N := 3) (by decide) a6762
      refine lv_aload_n hx hb gX12_deal_1.2.1 rfl (lv_at0 hl) ?_
      refine lv_iload_n hx hb gX12_deal_1.2.2.1 rfl (lv_at1 hl) ?_
      refine pV hC hK hl hP hD (m_kindOn l G h0 jt nw nk mhasKept nt mtaped nr mrowMany mroundOf mroundFrom mouts nm mfromHour mtoHour ns mfrom mto msort misFault mdeep mcoded mlines nl nc nF np ntr nb mbestCost nso nsi nit nsh nsf nss nrc 0 mdealer mnumber mwhose msize misParted fnw fnsh fnsf (by omega) (hN)) si_X12_345 [0, 1, 2, 3] sm_0_1_2_3 fm_0_1_2_3 nd_0_1_2_3 rfl rfl rfl rfl rfl (Nat.le_of_ble_eq_true rfl) rm_60_3_4 ⟨by first | exact Nat.le_of_ble_eq_true rfl | exact Nat.zero_le _, by first | exact Nat.le_of_ble_eq_true rfl | exact Nat.zero_le _⟩ gX12_deal_1.2.2.2.1 (Kors (Keqr ?_) (Kors (Keqa fun a6766 => ?_) (Kors (Keqa fun a6766 => ?_) (Kors (Keqa fun a6766 => ?_) (Kors (Keqa fun a6766 => ?_) (Kors (Keqa fun a6766 => ?_) (Keqa fun a6766 => ?_)))))))
      · refine lv_istore (lv' := [(4, .int (-1)), (0, .ref h0), (1, .int (nI jt)), (2, .int x2), (3, .int x3)]) hx hb gX12_deal_1.2.2.2.2.1 hl (by decide) rfl (fun ls hl => ?_)
        refine lv_iload hx hb gX12_deal_1.2.2.2.2.2.1 (lv_at0 hl) ?_
        refine lv_if_ge (tgt := 37) hx hb gX12_deal_1.2.2.2.2.2.2.1 (by decide) (fun c9 => absurd c9 (by decide)) (fun _ => ?_)
        refine lv_iconst (v := 0) hx hb gX12_deal_1.2.2.2.2.2.2.2.1 (by decide) ?_
        refine toQ hQ0 ?_
        exact RI (v := 0) hC hP hD hS [0, 1, 2, 3, 4] (0, mdealer, mnumber, mwhose, msize, misParted, fnrc) rfl rfl (by decide) (⟨trivial, by omega⟩) rfl gX12_deal_1.2.2.2.2.2.2.2.2.1
      · refine lv_istore (lv' := [(4, .int 1), (0, .ref h0), (1, .int (nI jt)), (2, .int x2), (3, .int x3)]) hx hb gX12_deal_1.2.2.2.2.1 hl (by decide) rfl (fun ls hl => ?_)
        refine lv_iload hx hb gX12_deal_1.2.2.2.2.2.1 (lv_at0 hl) ?_
        refine lv_if_ge (tgt := 37) hx hb gX12_deal_1.2.2.2.2.2.2.1 (by decide) (fun _ => ?_) (fun c9 => absurd (by decide) c9)
        refine lv_aload_n hx hb gX12_deal_1.2.2.2.2.2.2.2.2.2 rfl (lv_at1 hl) ?_
        refine lv_iload hx hb gX12_deal_2.1 (lv_at0 hl) ?_
        refine pf_X12_354 hC rfl hK hP hD hS 0 (ws' := [(h0, oX12 nw nk mhasKept nt mtaped nr mrowMany mroundOf mroundFrom mouts nm mfromHour mtoHour ns mfrom mto msort misFault mdeep mcoded mlines nl nc nF np ntr nb mbestCost nso nsi nit nsh nsf nss nrc 0 1 mnumber mwhose msize misParted), (nw, iA G 1662 fnw), (nsh, iA G 4 fnsh), (nsf, iA G 4 fnsf), (nrc, iA G 30 fnrc)]) rfl (Nat.le_of_ble_eq_true rfl) rfl rfl rfl gX12_deal_2.2.1 (fun H locs hP hD hS => ?_)
        refine lv_aload_n hx hb gX12_deal_2.2.2.1 rfl (lv_at1 hl) ?_
        refine lv_aload_n hx hb gX12_deal_2.2.2.2.1 rfl (lv_at1 hl) ?_
        refine gf_X12_75 hC rfl hK hP 0 rfl rfl gX12_deal_2.2.2.2.2.1 ?_
        refine lv_iload_n hx hb gX12_deal_2.2.2.2.2.2.1 rfl (lv_at2 hl) ?_
        refine aldN hC hK hP 3 rfl (k := jt) (by omega) (Nat.le_of_ble_eq_true rfl) (v := fnsf jt) rfl gX12_deal_2.2.2.2.2.2.2.1 ?_
        refine lv_topi (fun x6767 ex6767 => ?_)
        obtain ⟨hko9, jno, hjno, ejno⟩ := a6766
        refine eqi (x1 := nI jno) (ex6767.trans ejno) ?_
        refine pf_X12_378 hC rfl hK hP hD hS 0 (ws' := [(h0, oX12 nw nk mhasKept nt mtaped nr mrowMany mroundOf mroundFrom mouts nm mfromHour mtoHour ns mfrom mto msort misFault mdeep mcoded mlines nl nc nF np ntr nb mbestCost nso nsi nit nsh nsf nss nrc 0 1 (nI jno) mwhose msize misParted), (nw, iA G 1662 fnw), (nsh, iA G 4 fnsh), (nsf, iA G 4 fnsf), (nrc, iA G 30 fnrc)]) rfl (Nat.le_of_ble_eq_true rfl) rfl rfl rfl gX12_deal_2.2.2.2.2.2.2.2.1 (fun H locs hP hD hS => ?_)
        refine lv_aload_n hx hb gX12_deal_2.2.2.2.2.2.2.2.2.1 rfl (lv_at1 hl) ?_
        refine gf_X12_72 hC rfl hK hP 0 rfl rfl gX12_deal_2.2.2.2.2.2.2.2.2.2 ?_
        refine lv_iload_n hx hb gX12_deal_3.1 rfl (lv_at2 hl) ?_
        refine aldN hC hK hP 2 rfl (k := jt) (by omega) (Nat.le_of_ble_eq_true rfl) (v := fnsh jt) rfl gX12_deal_3.2.1 ?_
        refine lv_topi (fun x6768 ex6768 => ?_)
        refine lv_iconst (v := 1) hx hb gX12_deal_3.2.2.1 (by decide) ?_
        refine lv_icmp_ne (tgt := 67) hx hb gX12_deal_3.2.2.2.1 (by decide) (fun c9 => absurd (ex6768.trans hko9) c9) (fun _ => ?_)
        refine lv_iconst (v := 1) hx hb gX12_deal_3.2.2.2.2.1 (by decide) ?_
        refine lv_goto (tgt := 68) hx hb gX12_deal_3.2.2.2.2.2.1 (by decide) ?_
        refine lv_istore (lv' := [(5, .int 1), (4, .int 1), (0, .ref h0), (1, .int (nI jt)), (2, .int x2), (3, .int x3)]) hx hb gX12_deal_3.2.2.2.2.2.2.2.1 hl (by decide) rfl (fun ls hl => ?_)
        refine lv_aload_n hx hb gX12_deal_3.2.2.2.2.2.2.2.2.1 rfl (lv_at2 hl) ?_
        refine gf_X12_72 hC rfl hK hP 0 rfl rfl gX12_deal_3.2.2.2.2.2.2.2.2.2 ?_
        refine lv_iload_n hx hb gX12_deal_4.1 rfl (lv_at3 hl) ?_
        refine aldN hC hK hP 2 rfl (k := jt) (by omega) (Nat.le_of_ble_eq_true rfl) (v := fnsh jt) rfl gX12_deal_4.2.1 ?_
        refine lv_topi (fun x6769 ex6769 => ?_)
        refine lv_iconst (v := 2) hx hb gX12_deal_4.2.2.1 (by decide) ?_
        refine lv_icmp_ne (tgt := 84) hx hb gX12_deal_4.2.2.2.1 (by decide) (fun _ => ?_) (fun c9 => absurd c9 (fun h9 => absurd (hko9.symm.trans ((ex6769.symm).trans h9)) (by decide)))
        refine lv_iconst (v := 0) hx hb gX12_deal_4.2.2.2.2.2.2.1 (by decide) ?_
        refine lv_istore (lv' := [(6, .int 0), (5, .int 1), (4, .int 1), (0, .ref h0), (1, .int (nI jt)), (2, .int x2), (3, .int x3)]) hx hb gX12_deal_4.2.2.2.2.2.2.2.1 hl (by decide) rfl (fun ls hl => ?_)
        refine lv_aload_n hx hb gX12_deal_4.2.2.2.2.2.2.2.2.1 rfl (lv_at3 hl) ?_
        refine lv_iload hx hb gX12_deal_4.2.2.2.2.2.2.2.2.2 (lv_at1 hl) ?_
        refine lv_if_eq (tgt := 105) hx hb gX12_deal_5.1 (by decide) (fun c9 => absurd c9 (by decide)) (fun _ => ?_)
        refine lv_aload_n hx hb gX12_deal_5.2.1 rfl (lv_at3 hl) ?_
        refine lv_aload_n hx hb gX12_deal_5.2.2.1 rfl (lv_at3 hl) ?_
        refine gf_X12_378 hC rfl hK hP 0 rfl rfl gX12_deal_5.2.2.2.1 ?_
        refine lv_iconst (v := 0) hx hb gX12_deal_5.2.2.2.2.1 (by decide) ?_
        refine pV hC hK hl hP hD (m_paper l G h0 jno 0 nw nk mhasKept nt mtaped nr mrowMany mroundOf mroundFrom mouts nm mfromHour mtoHour ns mfrom mto msort misFault mdeep mcoded mlines nl nc nF np ntr nb mbestCost nso nsi nit nsh nsf nss nrc 0 1 (nI jno) mwhose msize misParted fnw (by omega) (by omega)) si_X12_88 [0, 1] sm_0_1 fm_0_1 nd_0_1 rfl rfl rfl rfl rfl (Nat.le_of_ble_eq_true rfl) rm_60_1_3 ⟨by first | exact Nat.le_of_ble_eq_true rfl | exact Nat.zero_le _, by first | exact Nat.le_of_ble_eq_true rfl | exact Nat.zero_le _⟩ gX12_deal_5.2.2.2.2.2.1 (Keqr ?_)
        refine lv_goto (tgt := 139) hx hb gX12_deal_5.2.2.2.2.2.2.1 (by decide) ?_
        refine pf_X12_375 hC rfl hK hP hD hS 0 (ws' := [(h0, oX12 nw nk mhasKept nt mtaped nr mrowMany mroundOf mroundFrom mouts nm mfromHour mtoHour ns mfrom mto msort misFault mdeep mcoded mlines nl nc nF np ntr nb mbestCost nso nsi nit nsh nsf nss nrc 0 1 (nI jno) (fnw (32 + 6 * jno + 0)) msize misParted), (nw, iA G 1662 fnw), (nsh, iA G 4 fnsh), (nsf, iA G 4 fnsf), (nrc, iA G 30 fnrc)]) rfl (Nat.le_of_ble_eq_true rfl) rfl rfl rfl gX12_deal_7.2.2.2.2.2.2.1 (fun H locs hP hD hS => ?_)
        refine lv_aload_n hx hb gX12_deal_7.2.2.2.2.2.2.2.1 rfl (lv_at3 hl) ?_
        refine lv_iload hx hb gX12_deal_7.2.2.2.2.2.2.2.2.1 (lv_at1 hl) ?_
        refine lv_if_eq (tgt := 160) hx hb gX12_deal_7.2.2.2.2.2.2.2.2.2 (by decide) (fun c9 => absurd c9 (by decide)) (fun _ => ?_)
        refine lv_aload_n hx hb gX12_deal_8.1 rfl (lv_at3 hl) ?_
        refine lv_aload_n hx hb gX12_deal_8.2.1 rfl (lv_at3 hl) ?_
        refine gf_X12_378 hC rfl hK hP 0 rfl rfl gX12_deal_8.2.2.1 ?_
        refine lv_iconst (v := 2) hx hb gX12_deal_8.2.2.2.1 (by decide) ?_
        refine pV hC hK hl hP hD (m_paper l G h0 jno 2 nw nk mhasKept nt mtaped nr mrowMany mroundOf mroundFrom mouts nm mfromHour mtoHour ns mfrom mto msort misFault mdeep mcoded mlines nl nc nF np ntr nb mbestCost nso nsi nit nsh nsf nss nrc 0 1 (nI jno) (fnw (32 + 6 * jno + 0)) msize misParted fnw (by omega) (by omega)) si_X12_88 [0, 1] sm_0_1 fm_0_1 nd_0_1 rfl rfl rfl rfl rfl (Nat.le_of_ble_eq_true rfl) rm_60_1_3 ⟨by first | exact Nat.le_of_ble_eq_true rfl | exact Nat.zero_le _, by first | exact Nat.le_of_ble_eq_true rfl | exact Nat.zero_le _⟩ gX12_deal_8.2.2.2.2.1 (Keqr ?_)
        refine lv_goto (tgt := 194) hx hb gX12_deal_8.2.2.2.2.2.1 (by decide) ?_
        refine pf_X12_369 hC rfl hK hP hD hS 0 (ws' := [(h0, oX12 nw nk mhasKept nt mtaped nr mrowMany mroundOf mroundFrom mouts nm mfromHour mtoHour ns mfrom mto msort misFault mdeep mcoded mlines nl nc nF np ntr nb mbestCost nso nsi nit nsh nsf nss nrc 0 1 (nI jno) (fnw (32 + 6 * jno + 0)) (fnw (32 + 6 * jno + 2)) misParted), (nw, iA G 1662 fnw), (nsh, iA G 4 fnsh), (nsf, iA G 4 fnsf), (nrc, iA G 30 fnrc)]) rfl (Nat.le_of_ble_eq_true rfl) rfl rfl rfl gX12_deal_10.2.2.2.2.2.1 (fun H locs hP hD hS => ?_)
        refine lv_aload_n hx hb gX12_deal_10.2.2.2.2.2.2.1 rfl (lv_at3 hl) ?_
        refine lv_iconst (v := 0) hx hb gX12_deal_10.2.2.2.2.2.2.2.1 (by decide) ?_
        refine pf_X12_380 hC rfl hK hP hD hS 0 (ws' := [(h0, oX12 nw nk mhasKept nt mtaped nr mrowMany mroundOf mroundFrom mouts nm mfromHour mtoHour ns mfrom mto msort misFault mdeep mcoded mlines nl nc nF np ntr nb mbestCost nso nsi nit nsh nsf nss nrc 0 1 (nI jno) (fnw (32 + 6 * jno + 0)) (fnw (32 + 6 * jno + 2)) 0), (nw, iA G 1662 fnw), (nsh, iA G 4 fnsh), (nsf, iA G 4 fnsf), (nrc, iA G 30 fnrc)]) rfl (Nat.le_of_ble_eq_true rfl) rfl (by decide +kernel) (by decide +kernel) gX12_deal_10.2.2.2.2.2.2.2.2.1 (fun H locs hP hD hS => ?_)
        obtain ⟨jdl, hjdl, rfl⟩ := Wi_nat (N := 3) (by decide) a6764
        rcases (show jdl = 0 ∨ jdl = 1 ∨ jdl = 2 ∨ jdl = 3 by omega) with rfl | rfl | rfl | rfl
        · refine lv_aload_n hx hb gX12_deal_10.2.2.2.2.2.2.2.2.2 rfl (lv_at3 hl) ?_
          refine lv_iload_n hx hb gX12_deal_11.1 rfl (lv_at5 hl) ?_
          refine lv_iload_n hx hb gX12_deal_11.2.1 rfl (lv_at6 hl) ?_
          refine iV (wr := [(nw, iA G 1662 fnw), (nsh, iA G 4 fnsh), (nsf, iA G 4 fnsf)]) hC hK hl hP hD hS hA (m_dealt0 l G h0 x3 nw nk mhasKept nt mtaped nr mrowMany mroundOf mroundFrom mouts nm mfromHour mtoHour ns mfrom mto msort misFault mdeep mcoded mlines nl nc nF np ntr nb mbestCost nso nsi nit nsh nsf nss nrc 0 1 (nI jno) (fnw (32 + 6 * jno + 0)) (fnw (32 + 6 * jno + 2)) 0 fnrc (by omega) (by omega)) si_X12_372 [0, 4] [1, 2, 3] sm_0_4 fm_0_4 nd_0_4 sm_1_2_3 nd_1_2_3 dj_0_4__1_2_3 rfl rfl rfl rfl rfl (Nat.le_of_ble_eq_true rfl) rm_60_14_3 ⟨Nat.le_of_ble_eq_true rfl, Nat.le_of_ble_eq_true rfl⟩ gX12_deal_11.2.2.1 (fun r6774 => Ktu3 fun jr16776 ip16777 gtrc6778 => ?_)
          intro H locs hr6774 hP hD hS
          try dsimp only at hr6774
          refine Kpdr (ws := [(nw, iA G 1662 fnw), (nsh, iA G 4 fnsh), (nsf, iA G 4 fnsf), (h0, oX12 nw nk mhasKept nt mtaped nr mrowMany mroundOf mroundFrom mouts nm mfromHour mtoHour ns mfrom mto msort misFault mdeep mcoded mlines nl nc nF np ntr nb mbestCost nso nsi nit nsh nsf nss nrc (nI jr16776) 1 (nI jno) (fnw (32 + 6 * jno + 0)) (fnw (32 + 6 * jno + 2)) ip16777), (nrc, iA G 30 gtrc6778)]) hP hD (fun hP hD => ?_)
          obtain ⟨hr6774, w6779⟩ := hr6774
          refine lv_istore (lv' := [(7, .int r6774), (6, .int 0), (5, .int 1), (4, .int 1), (0, .ref h0), (1, .int (nI jt)), (2, .int 0), (3, .int x3)]) hx hb gX12_deal_11.2.2.2.1 hl (by decide) rfl (fun ls hl => ?_)
          refine lv_aload_n hx hb gX12_deal_11.2.2.2.2.1 rfl (lv_at4 hl) ?_
          refine gf_X12_380 hC rfl hK hP 3 rfl rfl gX12_deal_11.2.2.2.2.2.1 ?_
          refine lv_if_eq (tgt := 222) hx hb gX12_deal_11.2.2.2.2.2.2.1 (by decide) (fun c_214_6780 => ?_) (fun c_214_6780 => ?_)
          · refine lv_iload hx hb gX12_deal_11.2.2.2.2.2.2.2.2.2 (lv_at0 hl) ?_
            refine toQ hQ0 ?_
            exact RI (v := r6774) hC hP hD hS [3, 0, 1, 2, 4] (jr16776, 1, nI jno, fnw (32 + 6 * jno + 0), fnw (32 + 6 * jno + 2), ip16777, gtrc6778) rfl rfl (by decide) (⟨trivial, by omega⟩) rfl gX12_deal_12
          · refine lv_bipush (v := (-15)) hx hb gX12_deal_11.2.2.2.2.2.2.2.1 (by decide) ?_
            refine lv_goto (tgt := 224) hx hb gX12_deal_11.2.2.2.2.2.2.2.2.1 (by decide) ?_
            refine toQ hQ0 ?_
            exact RI (v := (-15)) hC hP hD hS [3, 0, 1, 2, 4] (jr16776, 1, nI jno, fnw (32 + 6 * jno + 0), fnw (32 + 6 * jno + 2), ip16777, gtrc6778) rfl rfl (by decide) (⟨trivial, by omega⟩) rfl gX12_deal_12
        · refine lv_aload_n hx hb gX12_deal_10.2.2.2.2.2.2.2.2.2 rfl (lv_at3 hl) ?_
          refine lv_iload_n hx hb gX12_deal_11.1 rfl (lv_at5 hl) ?_
          refine lv_iload_n hx hb gX12_deal_11.2.1 rfl (lv_at6 hl) ?_
          refine iV (wr := [(nw, iA G 1662 fnw), (nsh, iA G 4 fnsh), (nsf, iA G 4 fnsf)]) hC hK hl hP hD hS hA (m_dealt1 l G h0 x3 nw nk mhasKept nt mtaped nr mrowMany mroundOf mroundFrom mouts nm mfromHour mtoHour ns mfrom mto msort misFault mdeep mcoded mlines nl nc nF np ntr nb mbestCost nso nsi nit nsh nsf nss nrc 0 1 (nI jno) (fnw (32 + 6 * jno + 0)) (fnw (32 + 6 * jno + 2)) 0 fnrc (by omega) (by omega)) si_X12_372 [0, 4] [1, 2, 3] sm_0_4 fm_0_4 nd_0_4 sm_1_2_3 nd_1_2_3 dj_0_4__1_2_3 rfl rfl rfl rfl rfl (Nat.le_of_ble_eq_true rfl) rm_60_26_3 ⟨Nat.le_of_ble_eq_true rfl, Nat.le_of_ble_eq_true rfl⟩ gX12_deal_11.2.2.1 (fun r6781 => Ktu3 fun jr16783 ip16784 gtrc6785 => ?_)
          intro H locs hr6781 hP hD hS
          try dsimp only at hr6781
          refine Kpdr (ws := [(nw, iA G 1662 fnw), (nsh, iA G 4 fnsh), (nsf, iA G 4 fnsf), (h0, oX12 nw nk mhasKept nt mtaped nr mrowMany mroundOf mroundFrom mouts nm mfromHour mtoHour ns mfrom mto msort misFault mdeep mcoded mlines nl nc nF np ntr nb mbestCost nso nsi nit nsh nsf nss nrc (nI jr16783) 1 (nI jno) (fnw (32 + 6 * jno + 0)) (fnw (32 + 6 * jno + 2)) ip16784), (nrc, iA G 30 gtrc6785)]) hP hD (fun hP hD => ?_)
          obtain ⟨hr6781, w6786⟩ := hr6781
          refine lv_istore (lv' := [(7, .int r6781), (6, .int 0), (5, .int 1), (4, .int 1), (0, .ref h0), (1, .int (nI jt)), (2, .int 1), (3, .int x3)]) hx hb gX12_deal_11.2.2.2.1 hl (by decide) rfl (fun ls hl => ?_)
          refine lv_aload_n hx hb gX12_deal_11.2.2.2.2.1 rfl (lv_at4 hl) ?_
          refine gf_X12_380 hC rfl hK hP 3 rfl rfl gX12_deal_11.2.2.2.2.2.1 ?_
          refine lv_if_eq (tgt := 222) hx hb gX12_deal_11.2.2.2.2.2.2.1 (by decide) (fun c_214_6787 => ?_) (fun c_214_6787 => ?_)
          · refine lv_iload hx hb gX12_deal_11.2.2.2.2.2.2.2.2.2 (lv_at0 hl) ?_
            refine toQ hQ0 ?_
            exact RI (v := r6781) hC hP hD hS [3, 0, 1, 2, 4] (jr16783, 1, nI jno, fnw (32 + 6 * jno + 0), fnw (32 + 6 * jno + 2), ip16784, gtrc6785) rfl rfl (by decide) (⟨trivial, by omega⟩) rfl gX12_deal_12
          · refine lv_bipush (v := (-15)) hx hb gX12_deal_11.2.2.2.2.2.2.2.1 (by decide) ?_
            refine lv_goto (tgt := 224) hx hb gX12_deal_11.2.2.2.2.2.2.2.2.1 (by decide) ?_
            refine toQ hQ0 ?_
            exact RI (v := (-15)) hC hP hD hS [3, 0, 1, 2, 4] (jr16783, 1, nI jno, fnw (32 + 6 * jno + 0), fnw (32 + 6 * jno + 2), ip16784, gtrc6785) rfl rfl (by decide) (⟨trivial, by omega⟩) rfl gX12_deal_12
        · refine lv_aload_n hx hb gX12_deal_10.2.2.2.2.2.2.2.2.2 rfl (lv_at3 hl) ?_
          refine lv_iload_n hx hb gX12_deal_11.1 rfl (lv_at5 hl) ?_
          refine lv_iload_n hx hb gX12_deal_11.2.1 rfl (lv_at6 hl) ?_
          refine iV (wr := [(nw, iA G 1662 fnw), (nsh, iA G 4 fnsh), (nsf, iA G 4 fnsf)]) hC hK hl hP hD hS hA (m_dealt2 l G h0 x3 nw nk mhasKept nt mtaped nr mrowMany mroundOf mroundFrom mouts nm mfromHour mtoHour ns mfrom mto msort misFault mdeep mcoded mlines nl nc nF np ntr nb mbestCost nso nsi nit nsh nsf nss nrc 0 1 (nI jno) (fnw (32 + 6 * jno + 0)) (fnw (32 + 6 * jno + 2)) 0 fnrc (by omega) (by omega)) si_X12_372 [0, 4] [1, 2, 3] sm_0_4 fm_0_4 nd_0_4 sm_1_2_3 nd_1_2_3 dj_0_4__1_2_3 rfl rfl rfl rfl rfl (Nat.le_of_ble_eq_true rfl) rm_60_38_3 ⟨Nat.le_of_ble_eq_true rfl, Nat.le_of_ble_eq_true rfl⟩ gX12_deal_11.2.2.1 (fun r6788 => Ktu3 fun jr16790 ip16791 gtrc6792 => ?_)
          intro H locs hr6788 hP hD hS
          try dsimp only at hr6788
          refine Kpdr (ws := [(nw, iA G 1662 fnw), (nsh, iA G 4 fnsh), (nsf, iA G 4 fnsf), (h0, oX12 nw nk mhasKept nt mtaped nr mrowMany mroundOf mroundFrom mouts nm mfromHour mtoHour ns mfrom mto msort misFault mdeep mcoded mlines nl nc nF np ntr nb mbestCost nso nsi nit nsh nsf nss nrc (nI jr16790) 1 (nI jno) (fnw (32 + 6 * jno + 0)) (fnw (32 + 6 * jno + 2)) ip16791), (nrc, iA G 30 gtrc6792)]) hP hD (fun hP hD => ?_)
          obtain ⟨hr6788, w6793⟩ := hr6788
          refine lv_istore (lv' := [(7, .int r6788), (6, .int 0), (5, .int 1), (4, .int 1), (0, .ref h0), (1, .int (nI jt)), (2, .int 2), (3, .int x3)]) hx hb gX12_deal_11.2.2.2.1 hl (by decide) rfl (fun ls hl => ?_)
          refine lv_aload_n hx hb gX12_deal_11.2.2.2.2.1 rfl (lv_at4 hl) ?_
          refine gf_X12_380 hC rfl hK hP 3 rfl rfl gX12_deal_11.2.2.2.2.2.1 ?_
          refine lv_if_eq (tgt := 222) hx hb gX12_deal_11.2.2.2.2.2.2.1 (by decide) (fun c_214_6794 => ?_) (fun c_214_6794 => ?_)
          · refine lv_iload hx hb gX12_deal_11.2.2.2.2.2.2.2.2.2 (lv_at0 hl) ?_
            refine toQ hQ0 ?_
            exact RI (v := r6788) hC hP hD hS [3, 0, 1, 2, 4] (jr16790, 1, nI jno, fnw (32 + 6 * jno + 0), fnw (32 + 6 * jno + 2), ip16791, gtrc6792) rfl rfl (by decide) (⟨trivial, by omega⟩) rfl gX12_deal_12
          · refine lv_bipush (v := (-15)) hx hb gX12_deal_11.2.2.2.2.2.2.2.1 (by decide) ?_
            refine lv_goto (tgt := 224) hx hb gX12_deal_11.2.2.2.2.2.2.2.2.1 (by decide) ?_
            refine toQ hQ0 ?_
            exact RI (v := (-15)) hC hP hD hS [3, 0, 1, 2, 4] (jr16790, 1, nI jno, fnw (32 + 6 * jno + 0), fnw (32 + 6 * jno + 2), ip16791, gtrc6792) rfl rfl (by decide) (⟨trivial, by omega⟩) rfl gX12_deal_12
        · refine lv_aload_n hx hb gX12_deal_10.2.2.2.2.2.2.2.2.2 rfl (lv_at3 hl) ?_
          refine lv_iload_n hx hb gX12_deal_11.1 rfl (lv_at5 hl) ?_
          refine lv_iload_n hx hb gX12_deal_11.2.1 rfl (lv_at6 hl) ?_
          refine iV (wr := [(nw, iA G 1662 fnw), (nsh, iA G 4 fnsh), (nsf, iA G 4 fnsf)]) hC hK hl hP hD hS hA (m_dealt3 l G h0 x3 nw nk mhasKept nt mtaped nr mrowMany mroundOf mroundFrom mouts nm mfromHour mtoHour ns mfrom mto msort misFault mdeep mcoded mlines nl nc nF np ntr nb mbestCost nso nsi nit nsh nsf nss nrc 0 1 (nI jno) (fnw (32 + 6 * jno + 0)) (fnw (32 + 6 * jno + 2)) 0 fnrc (by omega) (by omega)) si_X12_372 [0, 4] [1, 2, 3] sm_0_4 fm_0_4 nd_0_4 sm_1_2_3 nd_1_2_3 dj_0_4__1_2_3 rfl rfl rfl rfl rfl (Nat.le_of_ble_eq_true rfl) rm_60_50_3 ⟨Nat.le_of_ble_eq_true rfl, Nat.le_of_ble_eq_true rfl⟩ gX12_deal_11.2.2.1 (fun r6795 => Ktu3 fun jr16797 ip16798 gtrc6799 => ?_)
          intro H locs hr6795 hP hD hS
          try dsimp only at hr6795
          refine Kpdr (ws := [(nw, iA G 1662 fnw), (nsh, iA G 4 fnsh), (nsf, iA G 4 fnsf), (h0, oX12 nw nk mhasKept nt mtaped nr mrowMany mroundOf mroundFrom mouts nm mfromHour mtoHour ns mfrom mto msort misFault mdeep mcoded mlines nl nc nF np ntr nb mbestCost nso nsi nit nsh nsf nss nrc (nI jr16797) 1 (nI jno) (fnw (32 + 6 * jno + 0)) (fnw (32 + 6 * jno + 2)) ip16798), (nrc, iA G 30 gtrc6799)]) hP hD (fun hP hD => ?_)
          obtain ⟨hr6795, w6800⟩ := hr6795
          refine lv_istore (lv' := [(7, .int r6795), (6, .int 0), (5, .int 1), (4, .int 1), (0, .ref h0), (1, .int (nI jt)), (2, .int 3), (3, .int x3)]) hx hb gX12_deal_11.2.2.2.1 hl (by decide) rfl (fun ls hl => ?_)
          refine lv_aload_n hx hb gX12_deal_11.2.2.2.2.1 rfl (lv_at4 hl) ?_
          refine gf_X12_380 hC rfl hK hP 3 rfl rfl gX12_deal_11.2.2.2.2.2.1 ?_
          refine lv_if_eq (tgt := 222) hx hb gX12_deal_11.2.2.2.2.2.2.1 (by decide) (fun c_214_6801 => ?_) (fun c_214_6801 => ?_)
          · refine lv_iload hx hb gX12_deal_11.2.2.2.2.2.2.2.2.2 (lv_at0 hl) ?_
            refine toQ hQ0 ?_
            exact RI (v := r6795) hC hP hD hS [3, 0, 1, 2, 4] (jr16797, 1, nI jno, fnw (32 + 6 * jno + 0), fnw (32 + 6 * jno + 2), ip16798, gtrc6799) rfl rfl (by decide) (⟨trivial, by omega⟩) rfl gX12_deal_12
          · refine lv_bipush (v := (-15)) hx hb gX12_deal_11.2.2.2.2.2.2.2.1 (by decide) ?_
            refine lv_goto (tgt := 224) hx hb gX12_deal_11.2.2.2.2.2.2.2.2.1 (by decide) ?_
            refine toQ hQ0 ?_
            exact RI (v := (-15)) hC hP hD hS [3, 0, 1, 2, 4] (jr16797, 1, nI jno, fnw (32 + 6 * jno + 0), fnw (32 + 6 * jno + 2), ip16798, gtrc6799) rfl rfl (by decide) (⟨trivial, by omega⟩) rfl gX12_deal_12
      · refine lv_istore (lv' := [(4, .int 2), (0, .ref h0), (1, .int (nI jt)), (2, .int x2), (3, .int x3)]) hx hb gX12_deal_1.2.2.2.2.1 hl (by decide) rfl (fun ls hl => ?_)
        refine lv_iload hx hb gX12_deal_1.2.2.2.2.2.1 (lv_at0 hl) ?_
        refine lv_if_ge (tgt := 37) hx hb gX12_deal_1.2.2.2.2.2.2.1 (by decide) (fun _ => ?_) (fun c9 => absurd (by decide) c9)
        refine lv_aload_n hx hb gX12_deal_1.2.2.2.2.2.2.2.2.2 rfl (lv_at1 hl) ?_
        refine lv_iload hx hb gX12_deal_2.1 (lv_at0 hl) ?_
        refine pf_X12_354 hC rfl hK hP hD hS 0 (ws' := [(h0, oX12 nw nk mhasKept nt mtaped nr mrowMany mroundOf mroundFrom mouts nm mfromHour mtoHour ns mfrom mto msort misFault mdeep mcoded mlines nl nc nF np ntr nb mbestCost nso nsi nit nsh nsf nss nrc 0 2 mnumber mwhose msize misParted), (nw, iA G 1662 fnw), (nsh, iA G 4 fnsh), (nsf, iA G 4 fnsf), (nrc, iA G 30 fnrc)]) rfl (Nat.le_of_ble_eq_true rfl) rfl rfl rfl gX12_deal_2.2.1 (fun H locs hP hD hS => ?_)
        refine lv_aload_n hx hb gX12_deal_2.2.2.1 rfl (lv_at1 hl) ?_
        refine lv_aload_n hx hb gX12_deal_2.2.2.2.1 rfl (lv_at1 hl) ?_
        refine gf_X12_75 hC rfl hK hP 0 rfl rfl gX12_deal_2.2.2.2.2.1 ?_
        refine lv_iload_n hx hb gX12_deal_2.2.2.2.2.2.1 rfl (lv_at2 hl) ?_
        refine aldN hC hK hP 3 rfl (k := jt) (by omega) (Nat.le_of_ble_eq_true rfl) (v := fnsf jt) rfl gX12_deal_2.2.2.2.2.2.2.1 ?_
        refine lv_topi (fun x6802 ex6802 => ?_)
        obtain ⟨hko9, jno, hjno, ejno⟩ := a6766
        refine eqi (x1 := nI jno) (ex6802.trans ejno) ?_
        refine pf_X12_378 hC rfl hK hP hD hS 0 (ws' := [(h0, oX12 nw nk mhasKept nt mtaped nr mrowMany mroundOf mroundFrom mouts nm mfromHour mtoHour ns mfrom mto msort misFault mdeep mcoded mlines nl nc nF np ntr nb mbestCost nso nsi nit nsh nsf nss nrc 0 2 (nI jno) mwhose msize misParted), (nw, iA G 1662 fnw), (nsh, iA G 4 fnsh), (nsf, iA G 4 fnsf), (nrc, iA G 30 fnrc)]) rfl (Nat.le_of_ble_eq_true rfl) rfl rfl rfl gX12_deal_2.2.2.2.2.2.2.2.1 (fun H locs hP hD hS => ?_)
        refine lv_aload_n hx hb gX12_deal_2.2.2.2.2.2.2.2.2.1 rfl (lv_at1 hl) ?_
        refine gf_X12_72 hC rfl hK hP 0 rfl rfl gX12_deal_2.2.2.2.2.2.2.2.2.2 ?_
        refine lv_iload_n hx hb gX12_deal_3.1 rfl (lv_at2 hl) ?_
        refine aldN hC hK hP 2 rfl (k := jt) (by omega) (Nat.le_of_ble_eq_true rfl) (v := fnsh jt) rfl gX12_deal_3.2.1 ?_
        refine lv_topi (fun x6803 ex6803 => ?_)
        refine lv_iconst (v := 1) hx hb gX12_deal_3.2.2.1 (by decide) ?_
        refine lv_icmp_ne (tgt := 67) hx hb gX12_deal_3.2.2.2.1 (by decide) (fun c9 => absurd (ex6803.trans hko9) c9) (fun _ => ?_)
        refine lv_iconst (v := 1) hx hb gX12_deal_3.2.2.2.2.1 (by decide) ?_
        refine lv_goto (tgt := 68) hx hb gX12_deal_3.2.2.2.2.2.1 (by decide) ?_
        refine lv_istore (lv' := [(5, .int 1), (4, .int 2), (0, .ref h0), (1, .int (nI jt)), (2, .int x2), (3, .int x3)]) hx hb gX12_deal_3.2.2.2.2.2.2.2.1 hl (by decide) rfl (fun ls hl => ?_)
        refine lv_aload_n hx hb gX12_deal_3.2.2.2.2.2.2.2.2.1 rfl (lv_at2 hl) ?_
        refine gf_X12_72 hC rfl hK hP 0 rfl rfl gX12_deal_3.2.2.2.2.2.2.2.2.2 ?_
        refine lv_iload_n hx hb gX12_deal_4.1 rfl (lv_at3 hl) ?_
        refine aldN hC hK hP 2 rfl (k := jt) (by omega) (Nat.le_of_ble_eq_true rfl) (v := fnsh jt) rfl gX12_deal_4.2.1 ?_
        refine lv_topi (fun x6804 ex6804 => ?_)
        refine lv_iconst (v := 2) hx hb gX12_deal_4.2.2.1 (by decide) ?_
        refine lv_icmp_ne (tgt := 84) hx hb gX12_deal_4.2.2.2.1 (by decide) (fun _ => ?_) (fun c9 => absurd c9 (fun h9 => absurd (hko9.symm.trans ((ex6804.symm).trans h9)) (by decide)))
        refine lv_iconst (v := 0) hx hb gX12_deal_4.2.2.2.2.2.2.1 (by decide) ?_
        refine lv_istore (lv' := [(6, .int 0), (5, .int 1), (4, .int 2), (0, .ref h0), (1, .int (nI jt)), (2, .int x2), (3, .int x3)]) hx hb gX12_deal_4.2.2.2.2.2.2.2.1 hl (by decide) rfl (fun ls hl => ?_)
        refine lv_aload_n hx hb gX12_deal_4.2.2.2.2.2.2.2.2.1 rfl (lv_at3 hl) ?_
        refine lv_iload hx hb gX12_deal_4.2.2.2.2.2.2.2.2.2 (lv_at1 hl) ?_
        refine lv_if_eq (tgt := 105) hx hb gX12_deal_5.1 (by decide) (fun c9 => absurd c9 (by decide)) (fun _ => ?_)
        refine lv_aload_n hx hb gX12_deal_5.2.1 rfl (lv_at3 hl) ?_
        refine lv_aload_n hx hb gX12_deal_5.2.2.1 rfl (lv_at3 hl) ?_
        refine gf_X12_378 hC rfl hK hP 0 rfl rfl gX12_deal_5.2.2.2.1 ?_
        refine lv_iconst (v := 0) hx hb gX12_deal_5.2.2.2.2.1 (by decide) ?_
        refine pV hC hK hl hP hD (m_paper l G h0 jno 0 nw nk mhasKept nt mtaped nr mrowMany mroundOf mroundFrom mouts nm mfromHour mtoHour ns mfrom mto msort misFault mdeep mcoded mlines nl nc nF np ntr nb mbestCost nso nsi nit nsh nsf nss nrc 0 2 (nI jno) mwhose msize misParted fnw (by omega) (by omega)) si_X12_88 [0, 1] sm_0_1 fm_0_1 nd_0_1 rfl rfl rfl rfl rfl (Nat.le_of_ble_eq_true rfl) rm_60_1_3 ⟨by first | exact Nat.le_of_ble_eq_true rfl | exact Nat.zero_le _, by first | exact Nat.le_of_ble_eq_true rfl | exact Nat.zero_le _⟩ gX12_deal_5.2.2.2.2.2.1 (Keqr ?_)
        refine lv_goto (tgt := 139) hx hb gX12_deal_5.2.2.2.2.2.2.1 (by decide) ?_
        refine pf_X12_375 hC rfl hK hP hD hS 0 (ws' := [(h0, oX12 nw nk mhasKept nt mtaped nr mrowMany mroundOf mroundFrom mouts nm mfromHour mtoHour ns mfrom mto msort misFault mdeep mcoded mlines nl nc nF np ntr nb mbestCost nso nsi nit nsh nsf nss nrc 0 2 (nI jno) (fnw (32 + 6 * jno + 0)) msize misParted), (nw, iA G 1662 fnw), (nsh, iA G 4 fnsh), (nsf, iA G 4 fnsf), (nrc, iA G 30 fnrc)]) rfl (Nat.le_of_ble_eq_true rfl) rfl rfl rfl gX12_deal_7.2.2.2.2.2.2.1 (fun H locs hP hD hS => ?_)
        refine lv_aload_n hx hb gX12_deal_7.2.2.2.2.2.2.2.1 rfl (lv_at3 hl) ?_
        refine lv_iload hx hb gX12_deal_7.2.2.2.2.2.2.2.2.1 (lv_at1 hl) ?_
        refine lv_if_eq (tgt := 160) hx hb gX12_deal_7.2.2.2.2.2.2.2.2.2 (by decide) (fun c9 => absurd c9 (by decide)) (fun _ => ?_)
        refine lv_aload_n hx hb gX12_deal_8.1 rfl (lv_at3 hl) ?_
        refine lv_aload_n hx hb gX12_deal_8.2.1 rfl (lv_at3 hl) ?_
        refine gf_X12_378 hC rfl hK hP 0 rfl rfl gX12_deal_8.2.2.1 ?_
        refine lv_iconst (v := 2) hx hb gX12_deal_8.2.2.2.1 (by decide) ?_
        refine pV hC hK hl hP hD (m_paper l G h0 jno 2 nw nk mhasKept nt mtaped nr mrowMany mroundOf mroundFrom mouts nm mfromHour mtoHour ns mfrom mto msort misFault mdeep mcoded mlines nl nc nF np ntr nb mbestCost nso nsi nit nsh nsf nss nrc 0 2 (nI jno) (fnw (32 + 6 * jno + 0)) msize misParted fnw (by omega) (by omega)) si_X12_88 [0, 1] sm_0_1 fm_0_1 nd_0_1 rfl rfl rfl rfl rfl (Nat.le_of_ble_eq_true rfl) rm_60_1_3 ⟨by first | exact Nat.le_of_ble_eq_true rfl | exact Nat.zero_le _, by first | exact Nat.le_of_ble_eq_true rfl | exact Nat.zero_le _⟩ gX12_deal_8.2.2.2.2.1 (Keqr ?_)
        refine lv_goto (tgt := 194) hx hb gX12_deal_8.2.2.2.2.2.1 (by decide) ?_
        refine pf_X12_369 hC rfl hK hP hD hS 0 (ws' := [(h0, oX12 nw nk mhasKept nt mtaped nr mrowMany mroundOf mroundFrom mouts nm mfromHour mtoHour ns mfrom mto msort misFault mdeep mcoded mlines nl nc nF np ntr nb mbestCost nso nsi nit nsh nsf nss nrc 0 2 (nI jno) (fnw (32 + 6 * jno + 0)) (fnw (32 + 6 * jno + 2)) misParted), (nw, iA G 1662 fnw), (nsh, iA G 4 fnsh), (nsf, iA G 4 fnsf), (nrc, iA G 30 fnrc)]) rfl (Nat.le_of_ble_eq_true rfl) rfl rfl rfl gX12_deal_10.2.2.2.2.2.1 (fun H locs hP hD hS => ?_)
        refine lv_aload_n hx hb gX12_deal_10.2.2.2.2.2.2.1 rfl (lv_at3 hl) ?_
        refine lv_iconst (v := 0) hx hb gX12_deal_10.2.2.2.2.2.2.2.1 (by decide) ?_
        refine pf_X12_380 hC rfl hK hP hD hS 0 (ws' := [(h0, oX12 nw nk mhasKept nt mtaped nr mrowMany mroundOf mroundFrom mouts nm mfromHour mtoHour ns mfrom mto msort misFault mdeep mcoded mlines nl nc nF np ntr nb mbestCost nso nsi nit nsh nsf nss nrc 0 2 (nI jno) (fnw (32 + 6 * jno + 0)) (fnw (32 + 6 * jno + 2)) 0), (nw, iA G 1662 fnw), (nsh, iA G 4 fnsh), (nsf, iA G 4 fnsf), (nrc, iA G 30 fnrc)]) rfl (Nat.le_of_ble_eq_true rfl) rfl (by decide +kernel) (by decide +kernel) gX12_deal_10.2.2.2.2.2.2.2.2.1 (fun H locs hP hD hS => ?_)
        obtain ⟨jdl, hjdl, rfl⟩ := Wi_nat (N := 3) (by decide) a6764
        rcases (show jdl = 0 ∨ jdl = 1 ∨ jdl = 2 ∨ jdl = 3 by omega) with rfl | rfl | rfl | rfl
        · refine lv_aload_n hx hb gX12_deal_10.2.2.2.2.2.2.2.2.2 rfl (lv_at3 hl) ?_
          refine lv_iload_n hx hb gX12_deal_11.1 rfl (lv_at5 hl) ?_
          refine lv_iload_n hx hb gX12_deal_11.2.1 rfl (lv_at6 hl) ?_
          refine iV (wr := [(nw, iA G 1662 fnw), (nsh, iA G 4 fnsh), (nsf, iA G 4 fnsf)]) hC hK hl hP hD hS hA (m_dealt0 l G h0 x3 nw nk mhasKept nt mtaped nr mrowMany mroundOf mroundFrom mouts nm mfromHour mtoHour ns mfrom mto msort misFault mdeep mcoded mlines nl nc nF np ntr nb mbestCost nso nsi nit nsh nsf nss nrc 0 2 (nI jno) (fnw (32 + 6 * jno + 0)) (fnw (32 + 6 * jno + 2)) 0 fnrc (by omega) (by omega)) si_X12_372 [0, 4] [1, 2, 3] sm_0_4 fm_0_4 nd_0_4 sm_1_2_3 nd_1_2_3 dj_0_4__1_2_3 rfl rfl rfl rfl rfl (Nat.le_of_ble_eq_true rfl) rm_60_14_3 ⟨Nat.le_of_ble_eq_true rfl, Nat.le_of_ble_eq_true rfl⟩ gX12_deal_11.2.2.1 (fun r6809 => Ktu3 fun jr16811 ip16812 gtrc6813 => ?_)
          intro H locs hr6809 hP hD hS
          try dsimp only at hr6809
          refine Kpdr (ws := [(nw, iA G 1662 fnw), (nsh, iA G 4 fnsh), (nsf, iA G 4 fnsf), (h0, oX12 nw nk mhasKept nt mtaped nr mrowMany mroundOf mroundFrom mouts nm mfromHour mtoHour ns mfrom mto msort misFault mdeep mcoded mlines nl nc nF np ntr nb mbestCost nso nsi nit nsh nsf nss nrc (nI jr16811) 2 (nI jno) (fnw (32 + 6 * jno + 0)) (fnw (32 + 6 * jno + 2)) ip16812), (nrc, iA G 30 gtrc6813)]) hP hD (fun hP hD => ?_)
          obtain ⟨hr6809, w6814⟩ := hr6809
          refine lv_istore (lv' := [(7, .int r6809), (6, .int 0), (5, .int 1), (4, .int 2), (0, .ref h0), (1, .int (nI jt)), (2, .int 0), (3, .int x3)]) hx hb gX12_deal_11.2.2.2.1 hl (by decide) rfl (fun ls hl => ?_)
          refine lv_aload_n hx hb gX12_deal_11.2.2.2.2.1 rfl (lv_at4 hl) ?_
          refine gf_X12_380 hC rfl hK hP 3 rfl rfl gX12_deal_11.2.2.2.2.2.1 ?_
          refine lv_if_eq (tgt := 222) hx hb gX12_deal_11.2.2.2.2.2.2.1 (by decide) (fun c_214_6815 => ?_) (fun c_214_6815 => ?_)
          · refine lv_iload hx hb gX12_deal_11.2.2.2.2.2.2.2.2.2 (lv_at0 hl) ?_
            refine toQ hQ0 ?_
            exact RI (v := r6809) hC hP hD hS [3, 0, 1, 2, 4] (jr16811, 2, nI jno, fnw (32 + 6 * jno + 0), fnw (32 + 6 * jno + 2), ip16812, gtrc6813) rfl rfl (by decide) (⟨trivial, by omega⟩) rfl gX12_deal_12
          · refine lv_bipush (v := (-15)) hx hb gX12_deal_11.2.2.2.2.2.2.2.1 (by decide) ?_
            refine lv_goto (tgt := 224) hx hb gX12_deal_11.2.2.2.2.2.2.2.2.1 (by decide) ?_
            refine toQ hQ0 ?_
            exact RI (v := (-15)) hC hP hD hS [3, 0, 1, 2, 4] (jr16811, 2, nI jno, fnw (32 + 6 * jno + 0), fnw (32 + 6 * jno + 2), ip16812, gtrc6813) rfl rfl (by decide) (⟨trivial, by omega⟩) rfl gX12_deal_12
        · refine lv_aload_n hx hb gX12_deal_10.2.2.2.2.2.2.2.2.2 rfl (lv_at3 hl) ?_
          refine lv_iload_n hx hb gX12_deal_11.1 rfl (lv_at5 hl) ?_
          refine lv_iload_n hx hb gX12_deal_11.2.1 rfl (lv_at6 hl) ?_
          refine iV (wr := [(nw, iA G 1662 fnw), (nsh, iA G 4 fnsh), (nsf, iA G 4 fnsf)]) hC hK hl hP hD hS hA (m_dealt1 l G h0 x3 nw nk mhasKept nt mtaped nr mrowMany mroundOf mroundFrom mouts nm mfromHour mtoHour ns mfrom mto msort misFault mdeep mcoded mlines nl nc nF np ntr nb mbestCost nso nsi nit nsh nsf nss nrc 0 2 (nI jno) (fnw (32 + 6 * jno + 0)) (fnw (32 + 6 * jno + 2)) 0 fnrc (by omega) (by omega)) si_X12_372 [0, 4] [1, 2, 3] sm_0_4 fm_0_4 nd_0_4 sm_1_2_3 nd_1_2_3 dj_0_4__1_2_3 rfl rfl rfl rfl rfl (Nat.le_of_ble_eq_true rfl) rm_60_26_3 ⟨Nat.le_of_ble_eq_true rfl, Nat.le_of_ble_eq_true rfl⟩ gX12_deal_11.2.2.1 (fun r6816 => Ktu3 fun jr16818 ip16819 gtrc6820 => ?_)
          intro H locs hr6816 hP hD hS
          try dsimp only at hr6816
          refine Kpdr (ws := [(nw, iA G 1662 fnw), (nsh, iA G 4 fnsh), (nsf, iA G 4 fnsf), (h0, oX12 nw nk mhasKept nt mtaped nr mrowMany mroundOf mroundFrom mouts nm mfromHour mtoHour ns mfrom mto msort misFault mdeep mcoded mlines nl nc nF np ntr nb mbestCost nso nsi nit nsh nsf nss nrc (nI jr16818) 2 (nI jno) (fnw (32 + 6 * jno + 0)) (fnw (32 + 6 * jno + 2)) ip16819), (nrc, iA G 30 gtrc6820)]) hP hD (fun hP hD => ?_)
          obtain ⟨hr6816, w6821⟩ := hr6816
          refine lv_istore (lv' := [(7, .int r6816), (6, .int 0), (5, .int 1), (4, .int 2), (0, .ref h0), (1, .int (nI jt)), (2, .int 1), (3, .int x3)]) hx hb gX12_deal_11.2.2.2.1 hl (by decide) rfl (fun ls hl => ?_)
          refine lv_aload_n hx hb gX12_deal_11.2.2.2.2.1 rfl (lv_at4 hl) ?_
          refine gf_X12_380 hC rfl hK hP 3 rfl rfl gX12_deal_11.2.2.2.2.2.1 ?_
          refine lv_if_eq (tgt := 222) hx hb gX12_deal_11.2.2.2.2.2.2.1 (by decide) (fun c_214_6822 => ?_) (fun c_214_6822 => ?_)
          · refine lv_iload hx hb gX12_deal_11.2.2.2.2.2.2.2.2.2 (lv_at0 hl) ?_
            refine toQ hQ0 ?_
            exact RI (v := r6816) hC hP hD hS [3, 0, 1, 2, 4] (jr16818, 2, nI jno, fnw (32 + 6 * jno + 0), fnw (32 + 6 * jno + 2), ip16819, gtrc6820) rfl rfl (by decide) (⟨trivial, by omega⟩) rfl gX12_deal_12
          · refine lv_bipush (v := (-15)) hx hb gX12_deal_11.2.2.2.2.2.2.2.1 (by decide) ?_
            refine lv_goto (tgt := 224) hx hb gX12_deal_11.2.2.2.2.2.2.2.2.1 (by decide) ?_
            refine toQ hQ0 ?_
            exact RI (v := (-15)) hC hP hD hS [3, 0, 1, 2, 4] (jr16818, 2, nI jno, fnw (32 + 6 * jno + 0), fnw (32 + 6 * jno + 2), ip16819, gtrc6820) rfl rfl (by decide) (⟨trivial, by omega⟩) rfl gX12_deal_12
        · refine lv_aload_n hx hb gX12_deal_10.2.2.2.2.2.2.2.2.2 rfl (lv_at3 hl) ?_
          refine lv_iload_n hx hb gX12_deal_11.1 rfl (lv_at5 hl) ?_
          refine lv_iload_n hx hb gX12_deal_11.2.1 rfl (lv_at6 hl) ?_
          refine iV (wr := [(nw, iA G 1662 fnw), (nsh, iA G 4 fnsh), (nsf, iA G 4 fnsf)]) hC hK hl hP hD hS hA (m_dealt2 l G h0 x3 nw nk mhasKept nt mtaped nr mrowMany mroundOf mroundFrom mouts nm mfromHour mtoHour ns mfrom mto msort misFault mdeep mcoded mlines nl nc nF np ntr nb mbestCost nso nsi nit nsh nsf nss nrc 0 2 (nI jno) (fnw (32 + 6 * jno + 0)) (fnw (32 + 6 * jno + 2)) 0 fnrc (by omega) (by omega)) si_X12_372 [0, 4] [1, 2, 3] sm_0_4 fm_0_4 nd_0_4 sm_1_2_3 nd_1_2_3 dj_0_4__1_2_3 rfl rfl rfl rfl rfl (Nat.le_of_ble_eq_true rfl) rm_60_38_3 ⟨Nat.le_of_ble_eq_true rfl, Nat.le_of_ble_eq_true rfl⟩ gX12_deal_11.2.2.1 (fun r6823 => Ktu3 fun jr16825 ip16826 gtrc6827 => ?_)
          intro H locs hr6823 hP hD hS
          try dsimp only at hr6823
          refine Kpdr (ws := [(nw, iA G 1662 fnw), (nsh, iA G 4 fnsh), (nsf, iA G 4 fnsf), (h0, oX12 nw nk mhasKept nt mtaped nr mrowMany mroundOf mroundFrom mouts nm mfromHour mtoHour ns mfrom mto msort misFault mdeep mcoded mlines nl nc nF np ntr nb mbestCost nso nsi nit nsh nsf nss nrc (nI jr16825) 2 (nI jno) (fnw (32 + 6 * jno + 0)) (fnw (32 + 6 * jno + 2)) ip16826), (nrc, iA G 30 gtrc6827)]) hP hD (fun hP hD => ?_)
          obtain ⟨hr6823, w6828⟩ := hr6823
          refine lv_istore (lv' := [(7, .int r6823), (6, .int 0), (5, .int 1), (4, .int 2), (0, .ref h0), (1, .int (nI jt)), (2, .int 2), (3, .int x3)]) hx hb gX12_deal_11.2.2.2.1 hl (by decide) rfl (fun ls hl => ?_)
          refine lv_aload_n hx hb gX12_deal_11.2.2.2.2.1 rfl (lv_at4 hl) ?_
          refine gf_X12_380 hC rfl hK hP 3 rfl rfl gX12_deal_11.2.2.2.2.2.1 ?_
          refine lv_if_eq (tgt := 222) hx hb gX12_deal_11.2.2.2.2.2.2.1 (by decide) (fun c_214_6829 => ?_) (fun c_214_6829 => ?_)
          · refine lv_iload hx hb gX12_deal_11.2.2.2.2.2.2.2.2.2 (lv_at0 hl) ?_
            refine toQ hQ0 ?_
            exact RI (v := r6823) hC hP hD hS [3, 0, 1, 2, 4] (jr16825, 2, nI jno, fnw (32 + 6 * jno + 0), fnw (32 + 6 * jno + 2), ip16826, gtrc6827) rfl rfl (by decide) (⟨trivial, by omega⟩) rfl gX12_deal_12
          · refine lv_bipush (v := (-15)) hx hb gX12_deal_11.2.2.2.2.2.2.2.1 (by decide) ?_
            refine lv_goto (tgt := 224) hx hb gX12_deal_11.2.2.2.2.2.2.2.2.1 (by decide) ?_
            refine toQ hQ0 ?_
            exact RI (v := (-15)) hC hP hD hS [3, 0, 1, 2, 4] (jr16825, 2, nI jno, fnw (32 + 6 * jno + 0), fnw (32 + 6 * jno + 2), ip16826, gtrc6827) rfl rfl (by decide) (⟨trivial, by omega⟩) rfl gX12_deal_12
        · refine lv_aload_n hx hb gX12_deal_10.2.2.2.2.2.2.2.2.2 rfl (lv_at3 hl) ?_
          refine lv_iload_n hx hb gX12_deal_11.1 rfl (lv_at5 hl) ?_
          refine lv_iload_n hx hb gX12_deal_11.2.1 rfl (lv_at6 hl) ?_
          refine iV (wr := [(nw, iA G 1662 fnw), (nsh, iA G 4 fnsh), (nsf, iA G 4 fnsf)]) hC hK hl hP hD hS hA (m_dealt3 l G h0 x3 nw nk mhasKept nt mtaped nr mrowMany mroundOf mroundFrom mouts nm mfromHour mtoHour ns mfrom mto msort misFault mdeep mcoded mlines nl nc nF np ntr nb mbestCost nso nsi nit nsh nsf nss nrc 0 2 (nI jno) (fnw (32 + 6 * jno + 0)) (fnw (32 + 6 * jno + 2)) 0 fnrc (by omega) (by omega)) si_X12_372 [0, 4] [1, 2, 3] sm_0_4 fm_0_4 nd_0_4 sm_1_2_3 nd_1_2_3 dj_0_4__1_2_3 rfl rfl rfl rfl rfl (Nat.le_of_ble_eq_true rfl) rm_60_50_3 ⟨Nat.le_of_ble_eq_true rfl, Nat.le_of_ble_eq_true rfl⟩ gX12_deal_11.2.2.1 (fun r6830 => Ktu3 fun jr16832 ip16833 gtrc6834 => ?_)
          intro H locs hr6830 hP hD hS
          try dsimp only at hr6830
          refine Kpdr (ws := [(nw, iA G 1662 fnw), (nsh, iA G 4 fnsh), (nsf, iA G 4 fnsf), (h0, oX12 nw nk mhasKept nt mtaped nr mrowMany mroundOf mroundFrom mouts nm mfromHour mtoHour ns mfrom mto msort misFault mdeep mcoded mlines nl nc nF np ntr nb mbestCost nso nsi nit nsh nsf nss nrc (nI jr16832) 2 (nI jno) (fnw (32 + 6 * jno + 0)) (fnw (32 + 6 * jno + 2)) ip16833), (nrc, iA G 30 gtrc6834)]) hP hD (fun hP hD => ?_)
          obtain ⟨hr6830, w6835⟩ := hr6830
          refine lv_istore (lv' := [(7, .int r6830), (6, .int 0), (5, .int 1), (4, .int 2), (0, .ref h0), (1, .int (nI jt)), (2, .int 3), (3, .int x3)]) hx hb gX12_deal_11.2.2.2.1 hl (by decide) rfl (fun ls hl => ?_)
          refine lv_aload_n hx hb gX12_deal_11.2.2.2.2.1 rfl (lv_at4 hl) ?_
          refine gf_X12_380 hC rfl hK hP 3 rfl rfl gX12_deal_11.2.2.2.2.2.1 ?_
          refine lv_if_eq (tgt := 222) hx hb gX12_deal_11.2.2.2.2.2.2.1 (by decide) (fun c_214_6836 => ?_) (fun c_214_6836 => ?_)
          · refine lv_iload hx hb gX12_deal_11.2.2.2.2.2.2.2.2.2 (lv_at0 hl) ?_
            refine toQ hQ0 ?_
            exact RI (v := r6830) hC hP hD hS [3, 0, 1, 2, 4] (jr16832, 2, nI jno, fnw (32 + 6 * jno + 0), fnw (32 + 6 * jno + 2), ip16833, gtrc6834) rfl rfl (by decide) (⟨trivial, by omega⟩) rfl gX12_deal_12
          · refine lv_bipush (v := (-15)) hx hb gX12_deal_11.2.2.2.2.2.2.2.1 (by decide) ?_
            refine lv_goto (tgt := 224) hx hb gX12_deal_11.2.2.2.2.2.2.2.2.1 (by decide) ?_
            refine toQ hQ0 ?_
            exact RI (v := (-15)) hC hP hD hS [3, 0, 1, 2, 4] (jr16832, 2, nI jno, fnw (32 + 6 * jno + 0), fnw (32 + 6 * jno + 2), ip16833, gtrc6834) rfl rfl (by decide) (⟨trivial, by omega⟩) rfl gX12_deal_12
      · refine lv_istore (lv' := [(4, .int 3), (0, .ref h0), (1, .int (nI jt)), (2, .int x2), (3, .int x3)]) hx hb gX12_deal_1.2.2.2.2.1 hl (by decide) rfl (fun ls hl => ?_)
        refine lv_iload hx hb gX12_deal_1.2.2.2.2.2.1 (lv_at0 hl) ?_
        refine lv_if_ge (tgt := 37) hx hb gX12_deal_1.2.2.2.2.2.2.1 (by decide) (fun _ => ?_) (fun c9 => absurd (by decide) c9)
        refine lv_aload_n hx hb gX12_deal_1.2.2.2.2.2.2.2.2.2 rfl (lv_at1 hl) ?_
        refine lv_iload hx hb gX12_deal_2.1 (lv_at0 hl) ?_
        refine pf_X12_354 hC rfl hK hP hD hS 0 (ws' := [(h0, oX12 nw nk mhasKept nt mtaped nr mrowMany mroundOf mroundFrom mouts nm mfromHour mtoHour ns mfrom mto msort misFault mdeep mcoded mlines nl nc nF np ntr nb mbestCost nso nsi nit nsh nsf nss nrc 0 3 mnumber mwhose msize misParted), (nw, iA G 1662 fnw), (nsh, iA G 4 fnsh), (nsf, iA G 4 fnsf), (nrc, iA G 30 fnrc)]) rfl (Nat.le_of_ble_eq_true rfl) rfl rfl rfl gX12_deal_2.2.1 (fun H locs hP hD hS => ?_)
        refine lv_aload_n hx hb gX12_deal_2.2.2.1 rfl (lv_at1 hl) ?_
        refine lv_aload_n hx hb gX12_deal_2.2.2.2.1 rfl (lv_at1 hl) ?_
        refine gf_X12_75 hC rfl hK hP 0 rfl rfl gX12_deal_2.2.2.2.2.1 ?_
        refine lv_iload_n hx hb gX12_deal_2.2.2.2.2.2.1 rfl (lv_at2 hl) ?_
        refine aldN hC hK hP 3 rfl (k := jt) (by omega) (Nat.le_of_ble_eq_true rfl) (v := fnsf jt) rfl gX12_deal_2.2.2.2.2.2.2.1 ?_
        refine lv_topi (fun x6837 ex6837 => ?_)
        obtain ⟨hko9, jno, hjno, ejno⟩ := a6766
        refine eqi (x1 := nI jno) (ex6837.trans ejno) ?_
        refine pf_X12_378 hC rfl hK hP hD hS 0 (ws' := [(h0, oX12 nw nk mhasKept nt mtaped nr mrowMany mroundOf mroundFrom mouts nm mfromHour mtoHour ns mfrom mto msort misFault mdeep mcoded mlines nl nc nF np ntr nb mbestCost nso nsi nit nsh nsf nss nrc 0 3 (nI jno) mwhose msize misParted), (nw, iA G 1662 fnw), (nsh, iA G 4 fnsh), (nsf, iA G 4 fnsf), (nrc, iA G 30 fnrc)]) rfl (Nat.le_of_ble_eq_true rfl) rfl rfl rfl gX12_deal_2.2.2.2.2.2.2.2.1 (fun H locs hP hD hS => ?_)
        refine lv_aload_n hx hb gX12_deal_2.2.2.2.2.2.2.2.2.1 rfl (lv_at1 hl) ?_
        refine gf_X12_72 hC rfl hK hP 0 rfl rfl gX12_deal_2.2.2.2.2.2.2.2.2.2 ?_
        refine lv_iload_n hx hb gX12_deal_3.1 rfl (lv_at2 hl) ?_
        refine aldN hC hK hP 2 rfl (k := jt) (by omega) (Nat.le_of_ble_eq_true rfl) (v := fnsh jt) rfl gX12_deal_3.2.1 ?_
        refine lv_topi (fun x6838 ex6838 => ?_)
        refine lv_iconst (v := 1) hx hb gX12_deal_3.2.2.1 (by decide) ?_
        refine lv_icmp_ne (tgt := 67) hx hb gX12_deal_3.2.2.2.1 (by decide) (fun c9 => absurd (ex6838.trans hko9) c9) (fun _ => ?_)
        refine lv_iconst (v := 1) hx hb gX12_deal_3.2.2.2.2.1 (by decide) ?_
        refine lv_goto (tgt := 68) hx hb gX12_deal_3.2.2.2.2.2.1 (by decide) ?_
        refine lv_istore (lv' := [(5, .int 1), (4, .int 3), (0, .ref h0), (1, .int (nI jt)), (2, .int x2), (3, .int x3)]) hx hb gX12_deal_3.2.2.2.2.2.2.2.1 hl (by decide) rfl (fun ls hl => ?_)
        refine lv_aload_n hx hb gX12_deal_3.2.2.2.2.2.2.2.2.1 rfl (lv_at2 hl) ?_
        refine gf_X12_72 hC rfl hK hP 0 rfl rfl gX12_deal_3.2.2.2.2.2.2.2.2.2 ?_
        refine lv_iload_n hx hb gX12_deal_4.1 rfl (lv_at3 hl) ?_
        refine aldN hC hK hP 2 rfl (k := jt) (by omega) (Nat.le_of_ble_eq_true rfl) (v := fnsh jt) rfl gX12_deal_4.2.1 ?_
        refine lv_topi (fun x6839 ex6839 => ?_)
        refine lv_iconst (v := 2) hx hb gX12_deal_4.2.2.1 (by decide) ?_
        refine lv_icmp_ne (tgt := 84) hx hb gX12_deal_4.2.2.2.1 (by decide) (fun _ => ?_) (fun c9 => absurd c9 (fun h9 => absurd (hko9.symm.trans ((ex6839.symm).trans h9)) (by decide)))
        refine lv_iconst (v := 0) hx hb gX12_deal_4.2.2.2.2.2.2.1 (by decide) ?_
        refine lv_istore (lv' := [(6, .int 0), (5, .int 1), (4, .int 3), (0, .ref h0), (1, .int (nI jt)), (2, .int x2), (3, .int x3)]) hx hb gX12_deal_4.2.2.2.2.2.2.2.1 hl (by decide) rfl (fun ls hl => ?_)
        refine lv_aload_n hx hb gX12_deal_4.2.2.2.2.2.2.2.2.1 rfl (lv_at3 hl) ?_
        refine lv_iload hx hb gX12_deal_4.2.2.2.2.2.2.2.2.2 (lv_at1 hl) ?_
        refine lv_if_eq (tgt := 105) hx hb gX12_deal_5.1 (by decide) (fun c9 => absurd c9 (by decide)) (fun _ => ?_)
        refine lv_aload_n hx hb gX12_deal_5.2.1 rfl (lv_at3 hl) ?_
        refine lv_aload_n hx hb gX12_deal_5.2.2.1 rfl (lv_at3 hl) ?_
        refine gf_X12_378 hC rfl hK hP 0 rfl rfl gX12_deal_5.2.2.2.1 ?_
        refine lv_iconst (v := 0) hx hb gX12_deal_5.2.2.2.2.1 (by decide) ?_
        refine pV hC hK hl hP hD (m_paper l G h0 jno 0 nw nk mhasKept nt mtaped nr mrowMany mroundOf mroundFrom mouts nm mfromHour mtoHour ns mfrom mto msort misFault mdeep mcoded mlines nl nc nF np ntr nb mbestCost nso nsi nit nsh nsf nss nrc 0 3 (nI jno) mwhose msize misParted fnw (by omega) (by omega)) si_X12_88 [0, 1] sm_0_1 fm_0_1 nd_0_1 rfl rfl rfl rfl rfl (Nat.le_of_ble_eq_true rfl) rm_60_1_3 ⟨by first | exact Nat.le_of_ble_eq_true rfl | exact Nat.zero_le _, by first | exact Nat.le_of_ble_eq_true rfl | exact Nat.zero_le _⟩ gX12_deal_5.2.2.2.2.2.1 (Keqr ?_)
        refine lv_goto (tgt := 139) hx hb gX12_deal_5.2.2.2.2.2.2.1 (by decide) ?_
        refine pf_X12_375 hC rfl hK hP hD hS 0 (ws' := [(h0, oX12 nw nk mhasKept nt mtaped nr mrowMany mroundOf mroundFrom mouts nm mfromHour mtoHour ns mfrom mto msort misFault mdeep mcoded mlines nl nc nF np ntr nb mbestCost nso nsi nit nsh nsf nss nrc 0 3 (nI jno) (fnw (32 + 6 * jno + 0)) msize misParted), (nw, iA G 1662 fnw), (nsh, iA G 4 fnsh), (nsf, iA G 4 fnsf), (nrc, iA G 30 fnrc)]) rfl (Nat.le_of_ble_eq_true rfl) rfl rfl rfl gX12_deal_7.2.2.2.2.2.2.1 (fun H locs hP hD hS => ?_)
        refine lv_aload_n hx hb gX12_deal_7.2.2.2.2.2.2.2.1 rfl (lv_at3 hl) ?_
        refine lv_iload hx hb gX12_deal_7.2.2.2.2.2.2.2.2.1 (lv_at1 hl) ?_
        refine lv_if_eq (tgt := 160) hx hb gX12_deal_7.2.2.2.2.2.2.2.2.2 (by decide) (fun c9 => absurd c9 (by decide)) (fun _ => ?_)
        refine lv_aload_n hx hb gX12_deal_8.1 rfl (lv_at3 hl) ?_
        refine lv_aload_n hx hb gX12_deal_8.2.1 rfl (lv_at3 hl) ?_
        refine gf_X12_378 hC rfl hK hP 0 rfl rfl gX12_deal_8.2.2.1 ?_
        refine lv_iconst (v := 2) hx hb gX12_deal_8.2.2.2.1 (by decide) ?_
        refine pV hC hK hl hP hD (m_paper l G h0 jno 2 nw nk mhasKept nt mtaped nr mrowMany mroundOf mroundFrom mouts nm mfromHour mtoHour ns mfrom mto msort misFault mdeep mcoded mlines nl nc nF np ntr nb mbestCost nso nsi nit nsh nsf nss nrc 0 3 (nI jno) (fnw (32 + 6 * jno + 0)) msize misParted fnw (by omega) (by omega)) si_X12_88 [0, 1] sm_0_1 fm_0_1 nd_0_1 rfl rfl rfl rfl rfl (Nat.le_of_ble_eq_true rfl) rm_60_1_3 ⟨by first | exact Nat.le_of_ble_eq_true rfl | exact Nat.zero_le _, by first | exact Nat.le_of_ble_eq_true rfl | exact Nat.zero_le _⟩ gX12_deal_8.2.2.2.2.1 (Keqr ?_)
        refine lv_goto (tgt := 194) hx hb gX12_deal_8.2.2.2.2.2.1 (by decide) ?_
        refine pf_X12_369 hC rfl hK hP hD hS 0 (ws' := [(h0, oX12 nw nk mhasKept nt mtaped nr mrowMany mroundOf mroundFrom mouts nm mfromHour mtoHour ns mfrom mto msort misFault mdeep mcoded mlines nl nc nF np ntr nb mbestCost nso nsi nit nsh nsf nss nrc 0 3 (nI jno) (fnw (32 + 6 * jno + 0)) (fnw (32 + 6 * jno + 2)) misParted), (nw, iA G 1662 fnw), (nsh, iA G 4 fnsh), (nsf, iA G 4 fnsf), (nrc, iA G 30 fnrc)]) rfl (Nat.le_of_ble_eq_true rfl) rfl rfl rfl gX12_deal_10.2.2.2.2.2.1 (fun H locs hP hD hS => ?_)
        refine lv_aload_n hx hb gX12_deal_10.2.2.2.2.2.2.1 rfl (lv_at3 hl) ?_
        refine lv_iconst (v := 0) hx hb gX12_deal_10.2.2.2.2.2.2.2.1 (by decide) ?_
        refine pf_X12_380 hC rfl hK hP hD hS 0 (ws' := [(h0, oX12 nw nk mhasKept nt mtaped nr mrowMany mroundOf mroundFrom mouts nm mfromHour mtoHour ns mfrom mto msort misFault mdeep mcoded mlines nl nc nF np ntr nb mbestCost nso nsi nit nsh nsf nss nrc 0 3 (nI jno) (fnw (32 + 6 * jno + 0)) (fnw (32 + 6 * jno + 2)) 0), (nw, iA G 1662 fnw), (nsh, iA G 4 fnsh), (nsf, iA G 4 fnsf), (nrc, iA G 30 fnrc)]) rfl (Nat.le_of_ble_eq_true rfl) rfl (by decide +kernel) (by decide +kernel) gX12_deal_10.2.2.2.2.2.2.2.2.1 (fun H locs hP hD hS => ?_)
        obtain ⟨jdl, hjdl, rfl⟩ := Wi_nat (N := 3) (by decide) a6764
        rcases (show jdl = 0 ∨ jdl = 1 ∨ jdl = 2 ∨ jdl = 3 by omega) with rfl | rfl | rfl | rfl
        · refine lv_aload_n hx hb gX12_deal_10.2.2.2.2.2.2.2.2.2 rfl (lv_at3 hl) ?_
          refine lv_iload_n hx hb gX12_deal_11.1 rfl (lv_at5 hl) ?_
          refine lv_iload_n hx hb gX12_deal_11.2.1 rfl (lv_at6 hl) ?_
          refine iV (wr := [(nw, iA G 1662 fnw), (nsh, iA G 4 fnsh), (nsf, iA G 4 fnsf)]) hC hK hl hP hD hS hA (m_dealt0 l G h0 x3 nw nk mhasKept nt mtaped nr mrowMany mroundOf mroundFrom mouts nm mfromHour mtoHour ns mfrom mto msort misFault mdeep mcoded mlines nl nc nF np ntr nb mbestCost nso nsi nit nsh nsf nss nrc 0 3 (nI jno) (fnw (32 + 6 * jno + 0)) (fnw (32 + 6 * jno + 2)) 0 fnrc (by omega) (by omega)) si_X12_372 [0, 4] [1, 2, 3] sm_0_4 fm_0_4 nd_0_4 sm_1_2_3 nd_1_2_3 dj_0_4__1_2_3 rfl rfl rfl rfl rfl (Nat.le_of_ble_eq_true rfl) rm_60_14_3 ⟨Nat.le_of_ble_eq_true rfl, Nat.le_of_ble_eq_true rfl⟩ gX12_deal_11.2.2.1 (fun r6844 => Ktu3 fun jr16846 ip16847 gtrc6848 => ?_)
          intro H locs hr6844 hP hD hS
          try dsimp only at hr6844
          refine Kpdr (ws := [(nw, iA G 1662 fnw), (nsh, iA G 4 fnsh), (nsf, iA G 4 fnsf), (h0, oX12 nw nk mhasKept nt mtaped nr mrowMany mroundOf mroundFrom mouts nm mfromHour mtoHour ns mfrom mto msort misFault mdeep mcoded mlines nl nc nF np ntr nb mbestCost nso nsi nit nsh nsf nss nrc (nI jr16846) 3 (nI jno) (fnw (32 + 6 * jno + 0)) (fnw (32 + 6 * jno + 2)) ip16847), (nrc, iA G 30 gtrc6848)]) hP hD (fun hP hD => ?_)
          obtain ⟨hr6844, w6849⟩ := hr6844
          refine lv_istore (lv' := [(7, .int r6844), (6, .int 0), (5, .int 1), (4, .int 3), (0, .ref h0), (1, .int (nI jt)), (2, .int 0), (3, .int x3)]) hx hb gX12_deal_11.2.2.2.1 hl (by decide) rfl (fun ls hl => ?_)
          refine lv_aload_n hx hb gX12_deal_11.2.2.2.2.1 rfl (lv_at4 hl) ?_
          refine gf_X12_380 hC rfl hK hP 3 rfl rfl gX12_deal_11.2.2.2.2.2.1 ?_
          refine lv_if_eq (tgt := 222) hx hb gX12_deal_11.2.2.2.2.2.2.1 (by decide) (fun c_214_6850 => ?_) (fun c_214_6850 => ?_)
          · refine lv_iload hx hb gX12_deal_11.2.2.2.2.2.2.2.2.2 (lv_at0 hl) ?_
            refine toQ hQ0 ?_
            exact RI (v := r6844) hC hP hD hS [3, 0, 1, 2, 4] (jr16846, 3, nI jno, fnw (32 + 6 * jno + 0), fnw (32 + 6 * jno + 2), ip16847, gtrc6848) rfl rfl (by decide) (⟨trivial, by omega⟩) rfl gX12_deal_12
          · refine lv_bipush (v := (-15)) hx hb gX12_deal_11.2.2.2.2.2.2.2.1 (by decide) ?_
            refine lv_goto (tgt := 224) hx hb gX12_deal_11.2.2.2.2.2.2.2.2.1 (by decide) ?_
            refine toQ hQ0 ?_
            exact RI (v := (-15)) hC hP hD hS [3, 0, 1, 2, 4] (jr16846, 3, nI jno, fnw (32 + 6 * jno + 0), fnw (32 + 6 * jno + 2), ip16847, gtrc6848) rfl rfl (by decide) (⟨trivial, by omega⟩) rfl gX12_deal_12
        · refine lv_aload_n hx hb gX12_deal_10.2.2.2.2.2.2.2.2.2 rfl (lv_at3 hl) ?_
          refine lv_iload_n hx hb gX12_deal_11.1 rfl (lv_at5 hl) ?_
          refine lv_iload_n hx hb gX12_deal_11.2.1 rfl (lv_at6 hl) ?_
          refine iV (wr := [(nw, iA G 1662 fnw), (nsh, iA G 4 fnsh), (nsf, iA G 4 fnsf)]) hC hK hl hP hD hS hA (m_dealt1 l G h0 x3 nw nk mhasKept nt mtaped nr mrowMany mroundOf mroundFrom mouts nm mfromHour mtoHour ns mfrom mto msort misFault mdeep mcoded mlines nl nc nF np ntr nb mbestCost nso nsi nit nsh nsf nss nrc 0 3 (nI jno) (fnw (32 + 6 * jno + 0)) (fnw (32 + 6 * jno + 2)) 0 fnrc (by omega) (by omega)) si_X12_372 [0, 4] [1, 2, 3] sm_0_4 fm_0_4 nd_0_4 sm_1_2_3 nd_1_2_3 dj_0_4__1_2_3 rfl rfl rfl rfl rfl (Nat.le_of_ble_eq_true rfl) rm_60_26_3 ⟨Nat.le_of_ble_eq_true rfl, Nat.le_of_ble_eq_true rfl⟩ gX12_deal_11.2.2.1 (fun r6851 => Ktu3 fun jr16853 ip16854 gtrc6855 => ?_)
          intro H locs hr6851 hP hD hS
          try dsimp only at hr6851
          refine Kpdr (ws := [(nw, iA G 1662 fnw), (nsh, iA G 4 fnsh), (nsf, iA G 4 fnsf), (h0, oX12 nw nk mhasKept nt mtaped nr mrowMany mroundOf mroundFrom mouts nm mfromHour mtoHour ns mfrom mto msort misFault mdeep mcoded mlines nl nc nF np ntr nb mbestCost nso nsi nit nsh nsf nss nrc (nI jr16853) 3 (nI jno) (fnw (32 + 6 * jno + 0)) (fnw (32 + 6 * jno + 2)) ip16854), (nrc, iA G 30 gtrc6855)]) hP hD (fun hP hD => ?_)
          obtain ⟨hr6851, w6856⟩ := hr6851
          refine lv_istore (lv' := [(7, .int r6851), (6, .int 0), (5, .int 1), (4, .int 3), (0, .ref h0), (1, .int (nI jt)), (2, .int 1), (3, .int x3)]) hx hb gX12_deal_11.2.2.2.1 hl (by decide) rfl (fun ls hl => ?_)
          refine lv_aload_n hx hb gX12_deal_11.2.2.2.2.1 rfl (lv_at4 hl) ?_
          refine gf_X12_380 hC rfl hK hP 3 rfl rfl gX12_deal_11.2.2.2.2.2.1 ?_
          refine lv_if_eq (tgt := 222) hx hb gX12_deal_11.2.2.2.2.2.2.1 (by decide) (fun c_214_6857 => ?_) (fun c_214_6857 => ?_)
          · refine lv_iload hx hb gX12_deal_11.2.2.2.2.2.2.2.2.2 (lv_at0 hl) ?_
            refine toQ hQ0 ?_
            exact RI (v := r6851) hC hP hD hS [3, 0, 1, 2, 4] (jr16853, 3, nI jno, fnw (32 + 6 * jno + 0), fnw (32 + 6 * jno + 2), ip16854, gtrc6855) rfl rfl (by decide) (⟨trivial, by omega⟩) rfl gX12_deal_12
          · refine lv_bipush (v := (-15)) hx hb gX12_deal_11.2.2.2.2.2.2.2.1 (by decide) ?_
            refine lv_goto (tgt := 224) hx hb gX12_deal_11.2.2.2.2.2.2.2.2.1 (by decide) ?_
            refine toQ hQ0 ?_
            exact RI (v := (-15)) hC hP hD hS [3, 0, 1, 2, 4] (jr16853, 3, nI jno, fnw (32 + 6 * jno + 0), fnw (32 + 6 * jno + 2), ip16854, gtrc6855) rfl rfl (by decide) (⟨trivial, by omega⟩) rfl gX12_deal_12
        · refine lv_aload_n hx hb gX12_deal_10.2.2.2.2.2.2.2.2.2 rfl (lv_at3 hl) ?_
          refine lv_iload_n hx hb gX12_deal_11.1 rfl (lv_at5 hl) ?_
          refine lv_iload_n hx hb gX12_deal_11.2.1 rfl (lv_at6 hl) ?_
          refine iV (wr := [(nw, iA G 1662 fnw), (nsh, iA G 4 fnsh), (nsf, iA G 4 fnsf)]) hC hK hl hP hD hS hA (m_dealt2 l G h0 x3 nw nk mhasKept nt mtaped nr mrowMany mroundOf mroundFrom mouts nm mfromHour mtoHour ns mfrom mto msort misFault mdeep mcoded mlines nl nc nF np ntr nb mbestCost nso nsi nit nsh nsf nss nrc 0 3 (nI jno) (fnw (32 + 6 * jno + 0)) (fnw (32 + 6 * jno + 2)) 0 fnrc (by omega) (by omega)) si_X12_372 [0, 4] [1, 2, 3] sm_0_4 fm_0_4 nd_0_4 sm_1_2_3 nd_1_2_3 dj_0_4__1_2_3 rfl rfl rfl rfl rfl (Nat.le_of_ble_eq_true rfl) rm_60_38_3 ⟨Nat.le_of_ble_eq_true rfl, Nat.le_of_ble_eq_true rfl⟩ gX12_deal_11.2.2.1 (fun r6858 => Ktu3 fun jr16860 ip16861 gtrc6862 => ?_)
          intro H locs hr6858 hP hD hS
          try dsimp only at hr6858
          refine Kpdr (ws := [(nw, iA G 1662 fnw), (nsh, iA G 4 fnsh), (nsf, iA G 4 fnsf), (h0, oX12 nw nk mhasKept nt mtaped nr mrowMany mroundOf mroundFrom mouts nm mfromHour mtoHour ns mfrom mto msort misFault mdeep mcoded mlines nl nc nF np ntr nb mbestCost nso nsi nit nsh nsf nss nrc (nI jr16860) 3 (nI jno) (fnw (32 + 6 * jno + 0)) (fnw (32 + 6 * jno + 2)) ip16861), (nrc, iA G 30 gtrc6862)]) hP hD (fun hP hD => ?_)
          obtain ⟨hr6858, w6863⟩ := hr6858
          refine lv_istore (lv' := [(7, .int r6858), (6, .int 0), (5, .int 1), (4, .int 3), (0, .ref h0), (1, .int (nI jt)), (2, .int 2), (3, .int x3)]) hx hb gX12_deal_11.2.2.2.1 hl (by decide) rfl (fun ls hl => ?_)
          refine lv_aload_n hx hb gX12_deal_11.2.2.2.2.1 rfl (lv_at4 hl) ?_
          refine gf_X12_380 hC rfl hK hP 3 rfl rfl gX12_deal_11.2.2.2.2.2.1 ?_
          refine lv_if_eq (tgt := 222) hx hb gX12_deal_11.2.2.2.2.2.2.1 (by decide) (fun c_214_6864 => ?_) (fun c_214_6864 => ?_)
          · refine lv_iload hx hb gX12_deal_11.2.2.2.2.2.2.2.2.2 (lv_at0 hl) ?_
            refine toQ hQ0 ?_
            exact RI (v := r6858) hC hP hD hS [3, 0, 1, 2, 4] (jr16860, 3, nI jno, fnw (32 + 6 * jno + 0), fnw (32 + 6 * jno + 2), ip16861, gtrc6862) rfl rfl (by decide) (⟨trivial, by omega⟩) rfl gX12_deal_12
          · refine lv_bipush (v := (-15)) hx hb gX12_deal_11.2.2.2.2.2.2.2.1 (by decide) ?_
            refine lv_goto (tgt := 224) hx hb gX12_deal_11.2.2.2.2.2.2.2.2.1 (by decide) ?_
            refine toQ hQ0 ?_
            exact RI (v := (-15)) hC hP hD hS [3, 0, 1, 2, 4] (jr16860, 3, nI jno, fnw (32 + 6 * jno + 0), fnw (32 + 6 * jno + 2), ip16861, gtrc6862) rfl rfl (by decide) (⟨trivial, by omega⟩) rfl gX12_deal_12
        · refine lv_aload_n hx hb gX12_deal_10.2.2.2.2.2.2.2.2.2 rfl (lv_at3 hl) ?_
          refine lv_iload_n hx hb gX12_deal_11.1 rfl (lv_at5 hl) ?_
          refine lv_iload_n hx hb gX12_deal_11.2.1 rfl (lv_at6 hl) ?_
          refine iV (wr := [(nw, iA G 1662 fnw), (nsh, iA G 4 fnsh), (nsf, iA G 4 fnsf)]) hC hK hl hP hD hS hA (m_dealt3 l G h0 x3 nw nk mhasKept nt mtaped nr mrowMany mroundOf mroundFrom mouts nm mfromHour mtoHour ns mfrom mto msort misFault mdeep mcoded mlines nl nc nF np ntr nb mbestCost nso nsi nit nsh nsf nss nrc 0 3 (nI jno) (fnw (32 + 6 * jno + 0)) (fnw (32 + 6 * jno + 2)) 0 fnrc (by omega) (by omega)) si_X12_372 [0, 4] [1, 2, 3] sm_0_4 fm_0_4 nd_0_4 sm_1_2_3 nd_1_2_3 dj_0_4__1_2_3 rfl rfl rfl rfl rfl (Nat.le_of_ble_eq_true rfl) rm_60_50_3 ⟨Nat.le_of_ble_eq_true rfl, Nat.le_of_ble_eq_true rfl⟩ gX12_deal_11.2.2.1 (fun r6865 => Ktu3 fun jr16867 ip16868 gtrc6869 => ?_)
          intro H locs hr6865 hP hD hS
          try dsimp only at hr6865
          refine Kpdr (ws := [(nw, iA G 1662 fnw), (nsh, iA G 4 fnsh), (nsf, iA G 4 fnsf), (h0, oX12 nw nk mhasKept nt mtaped nr mrowMany mroundOf mroundFrom mouts nm mfromHour mtoHour ns mfrom mto msort misFault mdeep mcoded mlines nl nc nF np ntr nb mbestCost nso nsi nit nsh nsf nss nrc (nI jr16867) 3 (nI jno) (fnw (32 + 6 * jno + 0)) (fnw (32 + 6 * jno + 2)) ip16868), (nrc, iA G 30 gtrc6869)]) hP hD (fun hP hD => ?_)
          obtain ⟨hr6865, w6870⟩ := hr6865
          refine lv_istore (lv' := [(7, .int r6865), (6, .int 0), (5, .int 1), (4, .int 3), (0, .ref h0), (1, .int (nI jt)), (2, .int 3), (3, .int x3)]) hx hb gX12_deal_11.2.2.2.1 hl (by decide) rfl (fun ls hl => ?_)
          refine lv_aload_n hx hb gX12_deal_11.2.2.2.2.1 rfl (lv_at4 hl) ?_
          refine gf_X12_380 hC rfl hK hP 3 rfl rfl gX12_deal_11.2.2.2.2.2.1 ?_
          refine lv_if_eq (tgt := 222) hx hb gX12_deal_11.2.2.2.2.2.2.1 (by decide) (fun c_214_6871 => ?_) (fun c_214_6871 => ?_)
          · refine lv_iload hx hb gX12_deal_11.2.2.2.2.2.2.2.2.2 (lv_at0 hl) ?_
            refine toQ hQ0 ?_
            exact RI (v := r6865) hC hP hD hS [3, 0, 1, 2, 4] (jr16867, 3, nI jno, fnw (32 + 6 * jno + 0), fnw (32 + 6 * jno + 2), ip16868, gtrc6869) rfl rfl (by decide) (⟨trivial, by omega⟩) rfl gX12_deal_12
          · refine lv_bipush (v := (-15)) hx hb gX12_deal_11.2.2.2.2.2.2.2.1 (by decide) ?_
            refine lv_goto (tgt := 224) hx hb gX12_deal_11.2.2.2.2.2.2.2.2.1 (by decide) ?_
            refine toQ hQ0 ?_
            exact RI (v := (-15)) hC hP hD hS [3, 0, 1, 2, 4] (jr16867, 3, nI jno, fnw (32 + 6 * jno + 0), fnw (32 + 6 * jno + 2), ip16868, gtrc6869) rfl rfl (by decide) (⟨trivial, by omega⟩) rfl gX12_deal_12
      · refine lv_istore (lv' := [(4, .int 4), (0, .ref h0), (1, .int (nI jt)), (2, .int x2), (3, .int x3)]) hx hb gX12_deal_1.2.2.2.2.1 hl (by decide) rfl (fun ls hl => ?_)
        refine lv_iload hx hb gX12_deal_1.2.2.2.2.2.1 (lv_at0 hl) ?_
        refine lv_if_ge (tgt := 37) hx hb gX12_deal_1.2.2.2.2.2.2.1 (by decide) (fun _ => ?_) (fun c9 => absurd (by decide) c9)
        refine lv_aload_n hx hb gX12_deal_1.2.2.2.2.2.2.2.2.2 rfl (lv_at1 hl) ?_
        refine lv_iload hx hb gX12_deal_2.1 (lv_at0 hl) ?_
        refine pf_X12_354 hC rfl hK hP hD hS 0 (ws' := [(h0, oX12 nw nk mhasKept nt mtaped nr mrowMany mroundOf mroundFrom mouts nm mfromHour mtoHour ns mfrom mto msort misFault mdeep mcoded mlines nl nc nF np ntr nb mbestCost nso nsi nit nsh nsf nss nrc 0 4 mnumber mwhose msize misParted), (nw, iA G 1662 fnw), (nsh, iA G 4 fnsh), (nsf, iA G 4 fnsf), (nrc, iA G 30 fnrc)]) rfl (Nat.le_of_ble_eq_true rfl) rfl rfl rfl gX12_deal_2.2.1 (fun H locs hP hD hS => ?_)
        refine lv_aload_n hx hb gX12_deal_2.2.2.1 rfl (lv_at1 hl) ?_
        refine lv_aload_n hx hb gX12_deal_2.2.2.2.1 rfl (lv_at1 hl) ?_
        refine gf_X12_75 hC rfl hK hP 0 rfl rfl gX12_deal_2.2.2.2.2.1 ?_
        refine lv_iload_n hx hb gX12_deal_2.2.2.2.2.2.1 rfl (lv_at2 hl) ?_
        refine aldN hC hK hP 3 rfl (k := jt) (by omega) (Nat.le_of_ble_eq_true rfl) (v := fnsf jt) rfl gX12_deal_2.2.2.2.2.2.2.1 ?_
        refine lv_topi (fun x6872 ex6872 => ?_)
        obtain ⟨hko9, jno, hjno, ejno⟩ := a6766
        refine eqi (x1 := nI jno) (ex6872.trans ejno) ?_
        refine pf_X12_378 hC rfl hK hP hD hS 0 (ws' := [(h0, oX12 nw nk mhasKept nt mtaped nr mrowMany mroundOf mroundFrom mouts nm mfromHour mtoHour ns mfrom mto msort misFault mdeep mcoded mlines nl nc nF np ntr nb mbestCost nso nsi nit nsh nsf nss nrc 0 4 (nI jno) mwhose msize misParted), (nw, iA G 1662 fnw), (nsh, iA G 4 fnsh), (nsf, iA G 4 fnsf), (nrc, iA G 30 fnrc)]) rfl (Nat.le_of_ble_eq_true rfl) rfl rfl rfl gX12_deal_2.2.2.2.2.2.2.2.1 (fun H locs hP hD hS => ?_)
        refine lv_aload_n hx hb gX12_deal_2.2.2.2.2.2.2.2.2.1 rfl (lv_at1 hl) ?_
        refine gf_X12_72 hC rfl hK hP 0 rfl rfl gX12_deal_2.2.2.2.2.2.2.2.2.2 ?_
        refine lv_iload_n hx hb gX12_deal_3.1 rfl (lv_at2 hl) ?_
        refine aldN hC hK hP 2 rfl (k := jt) (by omega) (Nat.le_of_ble_eq_true rfl) (v := fnsh jt) rfl gX12_deal_3.2.1 ?_
        refine lv_topi (fun x6873 ex6873 => ?_)
        refine lv_iconst (v := 1) hx hb gX12_deal_3.2.2.1 (by decide) ?_
        refine lv_icmp_ne (tgt := 67) hx hb gX12_deal_3.2.2.2.1 (by decide) (fun _ => ?_) (fun c9 => absurd c9 (fun h9 => absurd (hko9.symm.trans ((ex6873.symm).trans h9)) (by decide)))
        refine lv_iconst (v := 0) hx hb gX12_deal_3.2.2.2.2.2.2.1 (by decide) ?_
        refine lv_istore (lv' := [(5, .int 0), (4, .int 4), (0, .ref h0), (1, .int (nI jt)), (2, .int x2), (3, .int x3)]) hx hb gX12_deal_3.2.2.2.2.2.2.2.1 hl (by decide) rfl (fun ls hl => ?_)
        refine lv_aload_n hx hb gX12_deal_3.2.2.2.2.2.2.2.2.1 rfl (lv_at2 hl) ?_
        refine gf_X12_72 hC rfl hK hP 0 rfl rfl gX12_deal_3.2.2.2.2.2.2.2.2.2 ?_
        refine lv_iload_n hx hb gX12_deal_4.1 rfl (lv_at3 hl) ?_
        refine aldN hC hK hP 2 rfl (k := jt) (by omega) (Nat.le_of_ble_eq_true rfl) (v := fnsh jt) rfl gX12_deal_4.2.1 ?_
        refine lv_topi (fun x6874 ex6874 => ?_)
        refine lv_iconst (v := 2) hx hb gX12_deal_4.2.2.1 (by decide) ?_
        refine lv_icmp_ne (tgt := 84) hx hb gX12_deal_4.2.2.2.1 (by decide) (fun c9 => absurd (ex6874.trans hko9) c9) (fun _ => ?_)
        refine lv_iconst (v := 1) hx hb gX12_deal_4.2.2.2.2.1 (by decide) ?_
        refine lv_goto (tgt := 85) hx hb gX12_deal_4.2.2.2.2.2.1 (by decide) ?_
        refine lv_istore (lv' := [(6, .int 1), (5, .int 0), (4, .int 4), (0, .ref h0), (1, .int (nI jt)), (2, .int x2), (3, .int x3)]) hx hb gX12_deal_4.2.2.2.2.2.2.2.1 hl (by decide) rfl (fun ls hl => ?_)
        refine lv_aload_n hx hb gX12_deal_4.2.2.2.2.2.2.2.2.1 rfl (lv_at3 hl) ?_
        refine lv_iload hx hb gX12_deal_4.2.2.2.2.2.2.2.2.2 (lv_at1 hl) ?_
        refine lv_if_eq (tgt := 105) hx hb gX12_deal_5.1 (by decide) (fun _ => ?_) (fun c9 => absurd (by decide) c9)
        refine lv_iload hx hb gX12_deal_5.2.2.2.2.2.2.2.1 (lv_at0 hl) ?_
        refine lv_if_eq (tgt := 122) hx hb gX12_deal_5.2.2.2.2.2.2.2.2.1 (by decide) (fun c9 => absurd c9 (by decide)) (fun _ => ?_)
        refine lv_aload_n hx hb gX12_deal_5.2.2.2.2.2.2.2.2.2 rfl (lv_at3 hl) ?_
        refine lv_aload_n hx hb gX12_deal_6.1 rfl (lv_at3 hl) ?_
        refine gf_X12_378 hC rfl hK hP 0 rfl rfl gX12_deal_6.2.1 ?_
        refine lv_iconst (v := 0) hx hb gX12_deal_6.2.2.1 (by decide) ?_
        refine pV hC hK hl hP hD (m_saying l G h0 jno 0 nw nk mhasKept nt mtaped nr mrowMany mroundOf mroundFrom mouts nm mfromHour mtoHour ns mfrom mto msort misFault mdeep mcoded mlines nl nc nF np ntr nb mbestCost nso nsi nit nsh nsf nss nrc 0 4 (nI jno) mwhose msize misParted fnw (by omega) (by omega)) si_X12_114 [0, 1] sm_0_1 fm_0_1 nd_0_1 rfl rfl rfl rfl rfl (Nat.le_of_ble_eq_true rfl) rm_60_1_3 ⟨by first | exact Nat.le_of_ble_eq_true rfl | exact Nat.zero_le _, by first | exact Nat.le_of_ble_eq_true rfl | exact Nat.zero_le _⟩ gX12_deal_6.2.2.2.1 (Keqr ?_)
        refine lv_goto (tgt := 139) hx hb gX12_deal_6.2.2.2.2.1 (by decide) ?_
        refine pf_X12_375 hC rfl hK hP hD hS 0 (ws' := [(h0, oX12 nw nk mhasKept nt mtaped nr mrowMany mroundOf mroundFrom mouts nm mfromHour mtoHour ns mfrom mto msort misFault mdeep mcoded mlines nl nc nF np ntr nb mbestCost nso nsi nit nsh nsf nss nrc 0 4 (nI jno) (fnw (1424 + 8 * jno + 0)) msize misParted), (nw, iA G 1662 fnw), (nsh, iA G 4 fnsh), (nsf, iA G 4 fnsf), (nrc, iA G 30 fnrc)]) rfl (Nat.le_of_ble_eq_true rfl) rfl rfl rfl gX12_deal_7.2.2.2.2.2.2.1 (fun H locs hP hD hS => ?_)
        refine lv_aload_n hx hb gX12_deal_7.2.2.2.2.2.2.2.1 rfl (lv_at3 hl) ?_
        refine lv_iload hx hb gX12_deal_7.2.2.2.2.2.2.2.2.1 (lv_at1 hl) ?_
        refine lv_if_eq (tgt := 160) hx hb gX12_deal_7.2.2.2.2.2.2.2.2.2 (by decide) (fun _ => ?_) (fun c9 => absurd (by decide) c9)
        refine lv_iload hx hb gX12_deal_8.2.2.2.2.2.2.1 (lv_at0 hl) ?_
        refine lv_if_eq (tgt := 177) hx hb gX12_deal_8.2.2.2.2.2.2.2.1 (by decide) (fun c9 => absurd c9 (by decide)) (fun _ => ?_)
        refine lv_aload_n hx hb gX12_deal_8.2.2.2.2.2.2.2.2.1 rfl (lv_at3 hl) ?_
        refine lv_aload_n hx hb gX12_deal_8.2.2.2.2.2.2.2.2.2 rfl (lv_at3 hl) ?_
        refine gf_X12_378 hC rfl hK hP 0 rfl rfl gX12_deal_9.1 ?_
        refine lv_iconst (v := 4) hx hb gX12_deal_9.2.1 (by decide) ?_
        refine pV hC hK hl hP hD (m_saying l G h0 jno 4 nw nk mhasKept nt mtaped nr mrowMany mroundOf mroundFrom mouts nm mfromHour mtoHour ns mfrom mto msort misFault mdeep mcoded mlines nl nc nF np ntr nb mbestCost nso nsi nit nsh nsf nss nrc 0 4 (nI jno) (fnw (1424 + 8 * jno + 0)) msize misParted fnw (by omega) (by omega)) si_X12_114 [0, 1] sm_0_1 fm_0_1 nd_0_1 rfl rfl rfl rfl rfl (Nat.le_of_ble_eq_true rfl) rm_60_1_3 ⟨by first | exact Nat.le_of_ble_eq_true rfl | exact Nat.zero_le _, by first | exact Nat.le_of_ble_eq_true rfl | exact Nat.zero_le _⟩ gX12_deal_9.2.2.1 (Keqr ?_)
        refine lv_goto (tgt := 194) hx hb gX12_deal_9.2.2.2.1 (by decide) ?_
        refine pf_X12_369 hC rfl hK hP hD hS 0 (ws' := [(h0, oX12 nw nk mhasKept nt mtaped nr mrowMany mroundOf mroundFrom mouts nm mfromHour mtoHour ns mfrom mto msort misFault mdeep mcoded mlines nl nc nF np ntr nb mbestCost nso nsi nit nsh nsf nss nrc 0 4 (nI jno) (fnw (1424 + 8 * jno + 0)) (fnw (1424 + 8 * jno + 4)) misParted), (nw, iA G 1662 fnw), (nsh, iA G 4 fnsh), (nsf, iA G 4 fnsf), (nrc, iA G 30 fnrc)]) rfl (Nat.le_of_ble_eq_true rfl) rfl rfl rfl gX12_deal_10.2.2.2.2.2.1 (fun H locs hP hD hS => ?_)
        refine lv_aload_n hx hb gX12_deal_10.2.2.2.2.2.2.1 rfl (lv_at3 hl) ?_
        refine lv_iconst (v := 0) hx hb gX12_deal_10.2.2.2.2.2.2.2.1 (by decide) ?_
        refine pf_X12_380 hC rfl hK hP hD hS 0 (ws' := [(h0, oX12 nw nk mhasKept nt mtaped nr mrowMany mroundOf mroundFrom mouts nm mfromHour mtoHour ns mfrom mto msort misFault mdeep mcoded mlines nl nc nF np ntr nb mbestCost nso nsi nit nsh nsf nss nrc 0 4 (nI jno) (fnw (1424 + 8 * jno + 0)) (fnw (1424 + 8 * jno + 4)) 0), (nw, iA G 1662 fnw), (nsh, iA G 4 fnsh), (nsf, iA G 4 fnsf), (nrc, iA G 30 fnrc)]) rfl (Nat.le_of_ble_eq_true rfl) rfl (by decide +kernel) (by decide +kernel) gX12_deal_10.2.2.2.2.2.2.2.2.1 (fun H locs hP hD hS => ?_)
        obtain ⟨jdl, hjdl, rfl⟩ := Wi_nat (N := 3) (by decide) a6764
        rcases (show jdl = 0 ∨ jdl = 1 ∨ jdl = 2 ∨ jdl = 3 by omega) with rfl | rfl | rfl | rfl
        · refine lv_aload_n hx hb gX12_deal_10.2.2.2.2.2.2.2.2.2 rfl (lv_at3 hl) ?_
          refine lv_iload_n hx hb gX12_deal_11.1 rfl (lv_at5 hl) ?_
          refine lv_iload_n hx hb gX12_deal_11.2.1 rfl (lv_at6 hl) ?_
          refine iV (wr := [(nw, iA G 1662 fnw), (nsh, iA G 4 fnsh), (nsf, iA G 4 fnsf)]) hC hK hl hP hD hS hA (m_dealt0 l G h0 x3 nw nk mhasKept nt mtaped nr mrowMany mroundOf mroundFrom mouts nm mfromHour mtoHour ns mfrom mto msort misFault mdeep mcoded mlines nl nc nF np ntr nb mbestCost nso nsi nit nsh nsf nss nrc 0 4 (nI jno) (fnw (1424 + 8 * jno + 0)) (fnw (1424 + 8 * jno + 4)) 0 fnrc (by omega) (by omega)) si_X12_372 [0, 4] [1, 2, 3] sm_0_4 fm_0_4 nd_0_4 sm_1_2_3 nd_1_2_3 dj_0_4__1_2_3 rfl rfl rfl rfl rfl (Nat.le_of_ble_eq_true rfl) rm_60_14_3 ⟨Nat.le_of_ble_eq_true rfl, Nat.le_of_ble_eq_true rfl⟩ gX12_deal_11.2.2.1 (fun r6879 => Ktu3 fun jr16881 ip16882 gtrc6883 => ?_)
          intro H locs hr6879 hP hD hS
          try dsimp only at hr6879
          refine Kpdr (ws := [(nw, iA G 1662 fnw), (nsh, iA G 4 fnsh), (nsf, iA G 4 fnsf), (h0, oX12 nw nk mhasKept nt mtaped nr mrowMany mroundOf mroundFrom mouts nm mfromHour mtoHour ns mfrom mto msort misFault mdeep mcoded mlines nl nc nF np ntr nb mbestCost nso nsi nit nsh nsf nss nrc (nI jr16881) 4 (nI jno) (fnw (1424 + 8 * jno + 0)) (fnw (1424 + 8 * jno + 4)) ip16882), (nrc, iA G 30 gtrc6883)]) hP hD (fun hP hD => ?_)
          obtain ⟨hr6879, w6884⟩ := hr6879
          refine lv_istore (lv' := [(7, .int r6879), (6, .int 1), (5, .int 0), (4, .int 4), (0, .ref h0), (1, .int (nI jt)), (2, .int 0), (3, .int x3)]) hx hb gX12_deal_11.2.2.2.1 hl (by decide) rfl (fun ls hl => ?_)
          refine lv_aload_n hx hb gX12_deal_11.2.2.2.2.1 rfl (lv_at4 hl) ?_
          refine gf_X12_380 hC rfl hK hP 3 rfl rfl gX12_deal_11.2.2.2.2.2.1 ?_
          refine lv_if_eq (tgt := 222) hx hb gX12_deal_11.2.2.2.2.2.2.1 (by decide) (fun c_214_6885 => ?_) (fun c_214_6885 => ?_)
          · refine lv_iload hx hb gX12_deal_11.2.2.2.2.2.2.2.2.2 (lv_at0 hl) ?_
            refine toQ hQ0 ?_
            exact RI (v := r6879) hC hP hD hS [3, 0, 1, 2, 4] (jr16881, 4, nI jno, fnw (1424 + 8 * jno + 0), fnw (1424 + 8 * jno + 4), ip16882, gtrc6883) rfl rfl (by decide) (⟨trivial, by omega⟩) rfl gX12_deal_12
          · refine lv_bipush (v := (-15)) hx hb gX12_deal_11.2.2.2.2.2.2.2.1 (by decide) ?_
            refine lv_goto (tgt := 224) hx hb gX12_deal_11.2.2.2.2.2.2.2.2.1 (by decide) ?_
            refine toQ hQ0 ?_
            exact RI (v := (-15)) hC hP hD hS [3, 0, 1, 2, 4] (jr16881, 4, nI jno, fnw (1424 + 8 * jno + 0), fnw (1424 + 8 * jno + 4), ip16882, gtrc6883) rfl rfl (by decide) (⟨trivial, by omega⟩) rfl gX12_deal_12
        · refine lv_aload_n hx hb gX12_deal_10.2.2.2.2.2.2.2.2.2 rfl (lv_at3 hl) ?_
          refine lv_iload_n hx hb gX12_deal_11.1 rfl (lv_at5 hl) ?_
          refine lv_iload_n hx hb gX12_deal_11.2.1 rfl (lv_at6 hl) ?_
          refine iV (wr := [(nw, iA G 1662 fnw), (nsh, iA G 4 fnsh), (nsf, iA G 4 fnsf)]) hC hK hl hP hD hS hA (m_dealt1 l G h0 x3 nw nk mhasKept nt mtaped nr mrowMany mroundOf mroundFrom mouts nm mfromHour mtoHour ns mfrom mto msort misFault mdeep mcoded mlines nl nc nF np ntr nb mbestCost nso nsi nit nsh nsf nss nrc 0 4 (nI jno) (fnw (1424 + 8 * jno + 0)) (fnw (1424 + 8 * jno + 4)) 0 fnrc (by omega) (by omega)) si_X12_372 [0, 4] [1, 2, 3] sm_0_4 fm_0_4 nd_0_4 sm_1_2_3 nd_1_2_3 dj_0_4__1_2_3 rfl rfl rfl rfl rfl (Nat.le_of_ble_eq_true rfl) rm_60_26_3 ⟨Nat.le_of_ble_eq_true rfl, Nat.le_of_ble_eq_true rfl⟩ gX12_deal_11.2.2.1 (fun r6886 => Ktu3 fun jr16888 ip16889 gtrc6890 => ?_)
          intro H locs hr6886 hP hD hS
          try dsimp only at hr6886
          refine Kpdr (ws := [(nw, iA G 1662 fnw), (nsh, iA G 4 fnsh), (nsf, iA G 4 fnsf), (h0, oX12 nw nk mhasKept nt mtaped nr mrowMany mroundOf mroundFrom mouts nm mfromHour mtoHour ns mfrom mto msort misFault mdeep mcoded mlines nl nc nF np ntr nb mbestCost nso nsi nit nsh nsf nss nrc (nI jr16888) 4 (nI jno) (fnw (1424 + 8 * jno + 0)) (fnw (1424 + 8 * jno + 4)) ip16889), (nrc, iA G 30 gtrc6890)]) hP hD (fun hP hD => ?_)
          obtain ⟨hr6886, w6891⟩ := hr6886
          refine lv_istore (lv' := [(7, .int r6886), (6, .int 1), (5, .int 0), (4, .int 4), (0, .ref h0), (1, .int (nI jt)), (2, .int 1), (3, .int x3)]) hx hb gX12_deal_11.2.2.2.1 hl (by decide) rfl (fun ls hl => ?_)
          refine lv_aload_n hx hb gX12_deal_11.2.2.2.2.1 rfl (lv_at4 hl) ?_
          refine gf_X12_380 hC rfl hK hP 3 rfl rfl gX12_deal_11.2.2.2.2.2.1 ?_
          refine lv_if_eq (tgt := 222) hx hb gX12_deal_11.2.2.2.2.2.2.1 (by decide) (fun c_214_6892 => ?_) (fun c_214_6892 => ?_)
          · refine lv_iload hx hb gX12_deal_11.2.2.2.2.2.2.2.2.2 (lv_at0 hl) ?_
            refine toQ hQ0 ?_
            exact RI (v := r6886) hC hP hD hS [3, 0, 1, 2, 4] (jr16888, 4, nI jno, fnw (1424 + 8 * jno + 0), fnw (1424 + 8 * jno + 4), ip16889, gtrc6890) rfl rfl (by decide) (⟨trivial, by omega⟩) rfl gX12_deal_12
          · refine lv_bipush (v := (-15)) hx hb gX12_deal_11.2.2.2.2.2.2.2.1 (by decide) ?_
            refine lv_goto (tgt := 224) hx hb gX12_deal_11.2.2.2.2.2.2.2.2.1 (by decide) ?_
            refine toQ hQ0 ?_
            exact RI (v := (-15)) hC hP hD hS [3, 0, 1, 2, 4] (jr16888, 4, nI jno, fnw (1424 + 8 * jno + 0), fnw (1424 + 8 * jno + 4), ip16889, gtrc6890) rfl rfl (by decide) (⟨trivial, by omega⟩) rfl gX12_deal_12
        · refine lv_aload_n hx hb gX12_deal_10.2.2.2.2.2.2.2.2.2 rfl (lv_at3 hl) ?_
          refine lv_iload_n hx hb gX12_deal_11.1 rfl (lv_at5 hl) ?_
          refine lv_iload_n hx hb gX12_deal_11.2.1 rfl (lv_at6 hl) ?_
          refine iV (wr := [(nw, iA G 1662 fnw), (nsh, iA G 4 fnsh), (nsf, iA G 4 fnsf)]) hC hK hl hP hD hS hA (m_dealt2 l G h0 x3 nw nk mhasKept nt mtaped nr mrowMany mroundOf mroundFrom mouts nm mfromHour mtoHour ns mfrom mto msort misFault mdeep mcoded mlines nl nc nF np ntr nb mbestCost nso nsi nit nsh nsf nss nrc 0 4 (nI jno) (fnw (1424 + 8 * jno + 0)) (fnw (1424 + 8 * jno + 4)) 0 fnrc (by omega) (by omega)) si_X12_372 [0, 4] [1, 2, 3] sm_0_4 fm_0_4 nd_0_4 sm_1_2_3 nd_1_2_3 dj_0_4__1_2_3 rfl rfl rfl rfl rfl (Nat.le_of_ble_eq_true rfl) rm_60_38_3 ⟨Nat.le_of_ble_eq_true rfl, Nat.le_of_ble_eq_true rfl⟩ gX12_deal_11.2.2.1 (fun r6893 => Ktu3 fun jr16895 ip16896 gtrc6897 => ?_)
          intro H locs hr6893 hP hD hS
          try dsimp only at hr6893
          refine Kpdr (ws := [(nw, iA G 1662 fnw), (nsh, iA G 4 fnsh), (nsf, iA G 4 fnsf), (h0, oX12 nw nk mhasKept nt mtaped nr mrowMany mroundOf mroundFrom mouts nm mfromHour mtoHour ns mfrom mto msort misFault mdeep mcoded mlines nl nc nF np ntr nb mbestCost nso nsi nit nsh nsf nss nrc (nI jr16895) 4 (nI jno) (fnw (1424 + 8 * jno + 0)) (fnw (1424 + 8 * jno + 4)) ip16896), (nrc, iA G 30 gtrc6897)]) hP hD (fun hP hD => ?_)
          obtain ⟨hr6893, w6898⟩ := hr6893
          refine lv_istore (lv' := [(7, .int r6893), (6, .int 1), (5, .int 0), (4, .int 4), (0, .ref h0), (1, .int (nI jt)), (2, .int 2), (3, .int x3)]) hx hb gX12_deal_11.2.2.2.1 hl (by decide) rfl (fun ls hl => ?_)
          refine lv_aload_n hx hb gX12_deal_11.2.2.2.2.1 rfl (lv_at4 hl) ?_
          refine gf_X12_380 hC rfl hK hP 3 rfl rfl gX12_deal_11.2.2.2.2.2.1 ?_
          refine lv_if_eq (tgt := 222) hx hb gX12_deal_11.2.2.2.2.2.2.1 (by decide) (fun c_214_6899 => ?_) (fun c_214_6899 => ?_)
          · refine lv_iload hx hb gX12_deal_11.2.2.2.2.2.2.2.2.2 (lv_at0 hl) ?_
            refine toQ hQ0 ?_
            exact RI (v := r6893) hC hP hD hS [3, 0, 1, 2, 4] (jr16895, 4, nI jno, fnw (1424 + 8 * jno + 0), fnw (1424 + 8 * jno + 4), ip16896, gtrc6897) rfl rfl (by decide) (⟨trivial, by omega⟩) rfl gX12_deal_12
          · refine lv_bipush (v := (-15)) hx hb gX12_deal_11.2.2.2.2.2.2.2.1 (by decide) ?_
            refine lv_goto (tgt := 224) hx hb gX12_deal_11.2.2.2.2.2.2.2.2.1 (by decide) ?_
            refine toQ hQ0 ?_
            exact RI (v := (-15)) hC hP hD hS [3, 0, 1, 2, 4] (jr16895, 4, nI jno, fnw (1424 + 8 * jno + 0), fnw (1424 + 8 * jno + 4), ip16896, gtrc6897) rfl rfl (by decide) (⟨trivial, by omega⟩) rfl gX12_deal_12
        · refine lv_aload_n hx hb gX12_deal_10.2.2.2.2.2.2.2.2.2 rfl (lv_at3 hl) ?_
          refine lv_iload_n hx hb gX12_deal_11.1 rfl (lv_at5 hl) ?_
          refine lv_iload_n hx hb gX12_deal_11.2.1 rfl (lv_at6 hl) ?_
          refine iV (wr := [(nw, iA G 1662 fnw), (nsh, iA G 4 fnsh), (nsf, iA G 4 fnsf)]) hC hK hl hP hD hS hA (m_dealt3 l G h0 x3 nw nk mhasKept nt mtaped nr mrowMany mroundOf mroundFrom mouts nm mfromHour mtoHour ns mfrom mto msort misFault mdeep mcoded mlines nl nc nF np ntr nb mbestCost nso nsi nit nsh nsf nss nrc 0 4 (nI jno) (fnw (1424 + 8 * jno + 0)) (fnw (1424 + 8 * jno + 4)) 0 fnrc (by omega) (by omega)) si_X12_372 [0, 4] [1, 2, 3] sm_0_4 fm_0_4 nd_0_4 sm_1_2_3 nd_1_2_3 dj_0_4__1_2_3 rfl rfl rfl rfl rfl (Nat.le_of_ble_eq_true rfl) rm_60_50_3 ⟨Nat.le_of_ble_eq_true rfl, Nat.le_of_ble_eq_true rfl⟩ gX12_deal_11.2.2.1 (fun r6900 => Ktu3 fun jr16902 ip16903 gtrc6904 => ?_)
          intro H locs hr6900 hP hD hS
          try dsimp only at hr6900
          refine Kpdr (ws := [(nw, iA G 1662 fnw), (nsh, iA G 4 fnsh), (nsf, iA G 4 fnsf), (h0, oX12 nw nk mhasKept nt mtaped nr mrowMany mroundOf mroundFrom mouts nm mfromHour mtoHour ns mfrom mto msort misFault mdeep mcoded mlines nl nc nF np ntr nb mbestCost nso nsi nit nsh nsf nss nrc (nI jr16902) 4 (nI jno) (fnw (1424 + 8 * jno + 0)) (fnw (1424 + 8 * jno + 4)) ip16903), (nrc, iA G 30 gtrc6904)]) hP hD (fun hP hD => ?_)
          obtain ⟨hr6900, w6905⟩ := hr6900
          refine lv_istore (lv' := [(7, .int r6900), (6, .int 1), (5, .int 0), (4, .int 4), (0, .ref h0), (1, .int (nI jt)), (2, .int 3), (3, .int x3)]) hx hb gX12_deal_11.2.2.2.1 hl (by decide) rfl (fun ls hl => ?_)
          refine lv_aload_n hx hb gX12_deal_11.2.2.2.2.1 rfl (lv_at4 hl) ?_
          refine gf_X12_380 hC rfl hK hP 3 rfl rfl gX12_deal_11.2.2.2.2.2.1 ?_
          refine lv_if_eq (tgt := 222) hx hb gX12_deal_11.2.2.2.2.2.2.1 (by decide) (fun c_214_6906 => ?_) (fun c_214_6906 => ?_)
          · refine lv_iload hx hb gX12_deal_11.2.2.2.2.2.2.2.2.2 (lv_at0 hl) ?_
            refine toQ hQ0 ?_
            exact RI (v := r6900) hC hP hD hS [3, 0, 1, 2, 4] (jr16902, 4, nI jno, fnw (1424 + 8 * jno + 0), fnw (1424 + 8 * jno + 4), ip16903, gtrc6904) rfl rfl (by decide) (⟨trivial, by omega⟩) rfl gX12_deal_12
          · refine lv_bipush (v := (-15)) hx hb gX12_deal_11.2.2.2.2.2.2.2.1 (by decide) ?_
            refine lv_goto (tgt := 224) hx hb gX12_deal_11.2.2.2.2.2.2.2.2.1 (by decide) ?_
            refine toQ hQ0 ?_
            exact RI (v := (-15)) hC hP hD hS [3, 0, 1, 2, 4] (jr16902, 4, nI jno, fnw (1424 + 8 * jno + 0), fnw (1424 + 8 * jno + 4), ip16903, gtrc6904) rfl rfl (by decide) (⟨trivial, by omega⟩) rfl gX12_deal_12
      · refine lv_istore (lv' := [(4, .int 5), (0, .ref h0), (1, .int (nI jt)), (2, .int x2), (3, .int x3)]) hx hb gX12_deal_1.2.2.2.2.1 hl (by decide) rfl (fun ls hl => ?_)
        refine lv_iload hx hb gX12_deal_1.2.2.2.2.2.1 (lv_at0 hl) ?_
        refine lv_if_ge (tgt := 37) hx hb gX12_deal_1.2.2.2.2.2.2.1 (by decide) (fun _ => ?_) (fun c9 => absurd (by decide) c9)
        refine lv_aload_n hx hb gX12_deal_1.2.2.2.2.2.2.2.2.2 rfl (lv_at1 hl) ?_
        refine lv_iload hx hb gX12_deal_2.1 (lv_at0 hl) ?_
        refine pf_X12_354 hC rfl hK hP hD hS 0 (ws' := [(h0, oX12 nw nk mhasKept nt mtaped nr mrowMany mroundOf mroundFrom mouts nm mfromHour mtoHour ns mfrom mto msort misFault mdeep mcoded mlines nl nc nF np ntr nb mbestCost nso nsi nit nsh nsf nss nrc 0 5 mnumber mwhose msize misParted), (nw, iA G 1662 fnw), (nsh, iA G 4 fnsh), (nsf, iA G 4 fnsf), (nrc, iA G 30 fnrc)]) rfl (Nat.le_of_ble_eq_true rfl) rfl rfl rfl gX12_deal_2.2.1 (fun H locs hP hD hS => ?_)
        refine lv_aload_n hx hb gX12_deal_2.2.2.1 rfl (lv_at1 hl) ?_
        refine lv_aload_n hx hb gX12_deal_2.2.2.2.1 rfl (lv_at1 hl) ?_
        refine gf_X12_75 hC rfl hK hP 0 rfl rfl gX12_deal_2.2.2.2.2.1 ?_
        refine lv_iload_n hx hb gX12_deal_2.2.2.2.2.2.1 rfl (lv_at2 hl) ?_
        refine aldN hC hK hP 3 rfl (k := jt) (by omega) (Nat.le_of_ble_eq_true rfl) (v := fnsf jt) rfl gX12_deal_2.2.2.2.2.2.2.1 ?_
        refine lv_topi (fun x6907 ex6907 => ?_)
        obtain ⟨hko9, jno, hjno, ejno⟩ := a6766
        refine eqi (x1 := nI jno) (ex6907.trans ejno) ?_
        refine pf_X12_378 hC rfl hK hP hD hS 0 (ws' := [(h0, oX12 nw nk mhasKept nt mtaped nr mrowMany mroundOf mroundFrom mouts nm mfromHour mtoHour ns mfrom mto msort misFault mdeep mcoded mlines nl nc nF np ntr nb mbestCost nso nsi nit nsh nsf nss nrc 0 5 (nI jno) mwhose msize misParted), (nw, iA G 1662 fnw), (nsh, iA G 4 fnsh), (nsf, iA G 4 fnsf), (nrc, iA G 30 fnrc)]) rfl (Nat.le_of_ble_eq_true rfl) rfl rfl rfl gX12_deal_2.2.2.2.2.2.2.2.1 (fun H locs hP hD hS => ?_)
        refine lv_aload_n hx hb gX12_deal_2.2.2.2.2.2.2.2.2.1 rfl (lv_at1 hl) ?_
        refine gf_X12_72 hC rfl hK hP 0 rfl rfl gX12_deal_2.2.2.2.2.2.2.2.2.2 ?_
        refine lv_iload_n hx hb gX12_deal_3.1 rfl (lv_at2 hl) ?_
        refine aldN hC hK hP 2 rfl (k := jt) (by omega) (Nat.le_of_ble_eq_true rfl) (v := fnsh jt) rfl gX12_deal_3.2.1 ?_
        refine lv_topi (fun x6908 ex6908 => ?_)
        refine lv_iconst (v := 1) hx hb gX12_deal_3.2.2.1 (by decide) ?_
        refine lv_icmp_ne (tgt := 67) hx hb gX12_deal_3.2.2.2.1 (by decide) (fun _ => ?_) (fun c9 => absurd c9 (fun h9 => absurd (hko9.symm.trans ((ex6908.symm).trans h9)) (by decide)))
        refine lv_iconst (v := 0) hx hb gX12_deal_3.2.2.2.2.2.2.1 (by decide) ?_
        refine lv_istore (lv' := [(5, .int 0), (4, .int 5), (0, .ref h0), (1, .int (nI jt)), (2, .int x2), (3, .int x3)]) hx hb gX12_deal_3.2.2.2.2.2.2.2.1 hl (by decide) rfl (fun ls hl => ?_)
        refine lv_aload_n hx hb gX12_deal_3.2.2.2.2.2.2.2.2.1 rfl (lv_at2 hl) ?_
        refine gf_X12_72 hC rfl hK hP 0 rfl rfl gX12_deal_3.2.2.2.2.2.2.2.2.2 ?_
        refine lv_iload_n hx hb gX12_deal_4.1 rfl (lv_at3 hl) ?_
        refine aldN hC hK hP 2 rfl (k := jt) (by omega) (Nat.le_of_ble_eq_true rfl) (v := fnsh jt) rfl gX12_deal_4.2.1 ?_
        refine lv_topi (fun x6909 ex6909 => ?_)
        refine lv_iconst (v := 2) hx hb gX12_deal_4.2.2.1 (by decide) ?_
        refine lv_icmp_ne (tgt := 84) hx hb gX12_deal_4.2.2.2.1 (by decide) (fun c9 => absurd (ex6909.trans hko9) c9) (fun _ => ?_)
        refine lv_iconst (v := 1) hx hb gX12_deal_4.2.2.2.2.1 (by decide) ?_
        refine lv_goto (tgt := 85) hx hb gX12_deal_4.2.2.2.2.2.1 (by decide) ?_
        refine lv_istore (lv' := [(6, .int 1), (5, .int 0), (4, .int 5), (0, .ref h0), (1, .int (nI jt)), (2, .int x2), (3, .int x3)]) hx hb gX12_deal_4.2.2.2.2.2.2.2.1 hl (by decide) rfl (fun ls hl => ?_)
        refine lv_aload_n hx hb gX12_deal_4.2.2.2.2.2.2.2.2.1 rfl (lv_at3 hl) ?_
        refine lv_iload hx hb gX12_deal_4.2.2.2.2.2.2.2.2.2 (lv_at1 hl) ?_
        refine lv_if_eq (tgt := 105) hx hb gX12_deal_5.1 (by decide) (fun _ => ?_) (fun c9 => absurd (by decide) c9)
        refine lv_iload hx hb gX12_deal_5.2.2.2.2.2.2.2.1 (lv_at0 hl) ?_
        refine lv_if_eq (tgt := 122) hx hb gX12_deal_5.2.2.2.2.2.2.2.2.1 (by decide) (fun c9 => absurd c9 (by decide)) (fun _ => ?_)
        refine lv_aload_n hx hb gX12_deal_5.2.2.2.2.2.2.2.2.2 rfl (lv_at3 hl) ?_
        refine lv_aload_n hx hb gX12_deal_6.1 rfl (lv_at3 hl) ?_
        refine gf_X12_378 hC rfl hK hP 0 rfl rfl gX12_deal_6.2.1 ?_
        refine lv_iconst (v := 0) hx hb gX12_deal_6.2.2.1 (by decide) ?_
        refine pV hC hK hl hP hD (m_saying l G h0 jno 0 nw nk mhasKept nt mtaped nr mrowMany mroundOf mroundFrom mouts nm mfromHour mtoHour ns mfrom mto msort misFault mdeep mcoded mlines nl nc nF np ntr nb mbestCost nso nsi nit nsh nsf nss nrc 0 5 (nI jno) mwhose msize misParted fnw (by omega) (by omega)) si_X12_114 [0, 1] sm_0_1 fm_0_1 nd_0_1 rfl rfl rfl rfl rfl (Nat.le_of_ble_eq_true rfl) rm_60_1_3 ⟨by first | exact Nat.le_of_ble_eq_true rfl | exact Nat.zero_le _, by first | exact Nat.le_of_ble_eq_true rfl | exact Nat.zero_le _⟩ gX12_deal_6.2.2.2.1 (Keqr ?_)
        refine lv_goto (tgt := 139) hx hb gX12_deal_6.2.2.2.2.1 (by decide) ?_
        refine pf_X12_375 hC rfl hK hP hD hS 0 (ws' := [(h0, oX12 nw nk mhasKept nt mtaped nr mrowMany mroundOf mroundFrom mouts nm mfromHour mtoHour ns mfrom mto msort misFault mdeep mcoded mlines nl nc nF np ntr nb mbestCost nso nsi nit nsh nsf nss nrc 0 5 (nI jno) (fnw (1424 + 8 * jno + 0)) msize misParted), (nw, iA G 1662 fnw), (nsh, iA G 4 fnsh), (nsf, iA G 4 fnsf), (nrc, iA G 30 fnrc)]) rfl (Nat.le_of_ble_eq_true rfl) rfl rfl rfl gX12_deal_7.2.2.2.2.2.2.1 (fun H locs hP hD hS => ?_)
        refine lv_aload_n hx hb gX12_deal_7.2.2.2.2.2.2.2.1 rfl (lv_at3 hl) ?_
        refine lv_iload hx hb gX12_deal_7.2.2.2.2.2.2.2.2.1 (lv_at1 hl) ?_
        refine lv_if_eq (tgt := 160) hx hb gX12_deal_7.2.2.2.2.2.2.2.2.2 (by decide) (fun _ => ?_) (fun c9 => absurd (by decide) c9)
        refine lv_iload hx hb gX12_deal_8.2.2.2.2.2.2.1 (lv_at0 hl) ?_
        refine lv_if_eq (tgt := 177) hx hb gX12_deal_8.2.2.2.2.2.2.2.1 (by decide) (fun c9 => absurd c9 (by decide)) (fun _ => ?_)
        refine lv_aload_n hx hb gX12_deal_8.2.2.2.2.2.2.2.2.1 rfl (lv_at3 hl) ?_
        refine lv_aload_n hx hb gX12_deal_8.2.2.2.2.2.2.2.2.2 rfl (lv_at3 hl) ?_
        refine gf_X12_378 hC rfl hK hP 0 rfl rfl gX12_deal_9.1 ?_
        refine lv_iconst (v := 4) hx hb gX12_deal_9.2.1 (by decide) ?_
        refine pV hC hK hl hP hD (m_saying l G h0 jno 4 nw nk mhasKept nt mtaped nr mrowMany mroundOf mroundFrom mouts nm mfromHour mtoHour ns mfrom mto msort misFault mdeep mcoded mlines nl nc nF np ntr nb mbestCost nso nsi nit nsh nsf nss nrc 0 5 (nI jno) (fnw (1424 + 8 * jno + 0)) msize misParted fnw (by omega) (by omega)) si_X12_114 [0, 1] sm_0_1 fm_0_1 nd_0_1 rfl rfl rfl rfl rfl (Nat.le_of_ble_eq_true rfl) rm_60_1_3 ⟨by first | exact Nat.le_of_ble_eq_true rfl | exact Nat.zero_le _, by first | exact Nat.le_of_ble_eq_true rfl | exact Nat.zero_le _⟩ gX12_deal_9.2.2.1 (Keqr ?_)
        refine lv_goto (tgt := 194) hx hb gX12_deal_9.2.2.2.1 (by decide) ?_
        refine pf_X12_369 hC rfl hK hP hD hS 0 (ws' := [(h0, oX12 nw nk mhasKept nt mtaped nr mrowMany mroundOf mroundFrom mouts nm mfromHour mtoHour ns mfrom mto msort misFault mdeep mcoded mlines nl nc nF np ntr nb mbestCost nso nsi nit nsh nsf nss nrc 0 5 (nI jno) (fnw (1424 + 8 * jno + 0)) (fnw (1424 + 8 * jno + 4)) misParted), (nw, iA G 1662 fnw), (nsh, iA G 4 fnsh), (nsf, iA G 4 fnsf), (nrc, iA G 30 fnrc)]) rfl (Nat.le_of_ble_eq_true rfl) rfl rfl rfl gX12_deal_10.2.2.2.2.2.1 (fun H locs hP hD hS => ?_)
        refine lv_aload_n hx hb gX12_deal_10.2.2.2.2.2.2.1 rfl (lv_at3 hl) ?_
        refine lv_iconst (v := 0) hx hb gX12_deal_10.2.2.2.2.2.2.2.1 (by decide) ?_
        refine pf_X12_380 hC rfl hK hP hD hS 0 (ws' := [(h0, oX12 nw nk mhasKept nt mtaped nr mrowMany mroundOf mroundFrom mouts nm mfromHour mtoHour ns mfrom mto msort misFault mdeep mcoded mlines nl nc nF np ntr nb mbestCost nso nsi nit nsh nsf nss nrc 0 5 (nI jno) (fnw (1424 + 8 * jno + 0)) (fnw (1424 + 8 * jno + 4)) 0), (nw, iA G 1662 fnw), (nsh, iA G 4 fnsh), (nsf, iA G 4 fnsf), (nrc, iA G 30 fnrc)]) rfl (Nat.le_of_ble_eq_true rfl) rfl (by decide +kernel) (by decide +kernel) gX12_deal_10.2.2.2.2.2.2.2.2.1 (fun H locs hP hD hS => ?_)
        obtain ⟨jdl, hjdl, rfl⟩ := Wi_nat (N := 3) (by decide) a6764
        rcases (show jdl = 0 ∨ jdl = 1 ∨ jdl = 2 ∨ jdl = 3 by omega) with rfl | rfl | rfl | rfl
        · refine lv_aload_n hx hb gX12_deal_10.2.2.2.2.2.2.2.2.2 rfl (lv_at3 hl) ?_
          refine lv_iload_n hx hb gX12_deal_11.1 rfl (lv_at5 hl) ?_
          refine lv_iload_n hx hb gX12_deal_11.2.1 rfl (lv_at6 hl) ?_
          refine iV (wr := [(nw, iA G 1662 fnw), (nsh, iA G 4 fnsh), (nsf, iA G 4 fnsf)]) hC hK hl hP hD hS hA (m_dealt0 l G h0 x3 nw nk mhasKept nt mtaped nr mrowMany mroundOf mroundFrom mouts nm mfromHour mtoHour ns mfrom mto msort misFault mdeep mcoded mlines nl nc nF np ntr nb mbestCost nso nsi nit nsh nsf nss nrc 0 5 (nI jno) (fnw (1424 + 8 * jno + 0)) (fnw (1424 + 8 * jno + 4)) 0 fnrc (by omega) (by omega)) si_X12_372 [0, 4] [1, 2, 3] sm_0_4 fm_0_4 nd_0_4 sm_1_2_3 nd_1_2_3 dj_0_4__1_2_3 rfl rfl rfl rfl rfl (Nat.le_of_ble_eq_true rfl) rm_60_14_3 ⟨Nat.le_of_ble_eq_true rfl, Nat.le_of_ble_eq_true rfl⟩ gX12_deal_11.2.2.1 (fun r6914 => Ktu3 fun jr16916 ip16917 gtrc6918 => ?_)
          intro H locs hr6914 hP hD hS
          try dsimp only at hr6914
          refine Kpdr (ws := [(nw, iA G 1662 fnw), (nsh, iA G 4 fnsh), (nsf, iA G 4 fnsf), (h0, oX12 nw nk mhasKept nt mtaped nr mrowMany mroundOf mroundFrom mouts nm mfromHour mtoHour ns mfrom mto msort misFault mdeep mcoded mlines nl nc nF np ntr nb mbestCost nso nsi nit nsh nsf nss nrc (nI jr16916) 5 (nI jno) (fnw (1424 + 8 * jno + 0)) (fnw (1424 + 8 * jno + 4)) ip16917), (nrc, iA G 30 gtrc6918)]) hP hD (fun hP hD => ?_)
          obtain ⟨hr6914, w6919⟩ := hr6914
          refine lv_istore (lv' := [(7, .int r6914), (6, .int 1), (5, .int 0), (4, .int 5), (0, .ref h0), (1, .int (nI jt)), (2, .int 0), (3, .int x3)]) hx hb gX12_deal_11.2.2.2.1 hl (by decide) rfl (fun ls hl => ?_)
          refine lv_aload_n hx hb gX12_deal_11.2.2.2.2.1 rfl (lv_at4 hl) ?_
          refine gf_X12_380 hC rfl hK hP 3 rfl rfl gX12_deal_11.2.2.2.2.2.1 ?_
          refine lv_if_eq (tgt := 222) hx hb gX12_deal_11.2.2.2.2.2.2.1 (by decide) (fun c_214_6920 => ?_) (fun c_214_6920 => ?_)
          · refine lv_iload hx hb gX12_deal_11.2.2.2.2.2.2.2.2.2 (lv_at0 hl) ?_
            refine toQ hQ0 ?_
            exact RI (v := r6914) hC hP hD hS [3, 0, 1, 2, 4] (jr16916, 5, nI jno, fnw (1424 + 8 * jno + 0), fnw (1424 + 8 * jno + 4), ip16917, gtrc6918) rfl rfl (by decide) (⟨trivial, by omega⟩) rfl gX12_deal_12
          · refine lv_bipush (v := (-15)) hx hb gX12_deal_11.2.2.2.2.2.2.2.1 (by decide) ?_
            refine lv_goto (tgt := 224) hx hb gX12_deal_11.2.2.2.2.2.2.2.2.1 (by decide) ?_
            refine toQ hQ0 ?_
            exact RI (v := (-15)) hC hP hD hS [3, 0, 1, 2, 4] (jr16916, 5, nI jno, fnw (1424 + 8 * jno + 0), fnw (1424 + 8 * jno + 4), ip16917, gtrc6918) rfl rfl (by decide) (⟨trivial, by omega⟩) rfl gX12_deal_12
        · refine lv_aload_n hx hb gX12_deal_10.2.2.2.2.2.2.2.2.2 rfl (lv_at3 hl) ?_
          refine lv_iload_n hx hb gX12_deal_11.1 rfl (lv_at5 hl) ?_
          refine lv_iload_n hx hb gX12_deal_11.2.1 rfl (lv_at6 hl) ?_
          refine iV (wr := [(nw, iA G 1662 fnw), (nsh, iA G 4 fnsh), (nsf, iA G 4 fnsf)]) hC hK hl hP hD hS hA (m_dealt1 l G h0 x3 nw nk mhasKept nt mtaped nr mrowMany mroundOf mroundFrom mouts nm mfromHour mtoHour ns mfrom mto msort misFault mdeep mcoded mlines nl nc nF np ntr nb mbestCost nso nsi nit nsh nsf nss nrc 0 5 (nI jno) (fnw (1424 + 8 * jno + 0)) (fnw (1424 + 8 * jno + 4)) 0 fnrc (by omega) (by omega)) si_X12_372 [0, 4] [1, 2, 3] sm_0_4 fm_0_4 nd_0_4 sm_1_2_3 nd_1_2_3 dj_0_4__1_2_3 rfl rfl rfl rfl rfl (Nat.le_of_ble_eq_true rfl) rm_60_26_3 ⟨Nat.le_of_ble_eq_true rfl, Nat.le_of_ble_eq_true rfl⟩ gX12_deal_11.2.2.1 (fun r6921 => Ktu3 fun jr16923 ip16924 gtrc6925 => ?_)
          intro H locs hr6921 hP hD hS
          try dsimp only at hr6921
          refine Kpdr (ws := [(nw, iA G 1662 fnw), (nsh, iA G 4 fnsh), (nsf, iA G 4 fnsf), (h0, oX12 nw nk mhasKept nt mtaped nr mrowMany mroundOf mroundFrom mouts nm mfromHour mtoHour ns mfrom mto msort misFault mdeep mcoded mlines nl nc nF np ntr nb mbestCost nso nsi nit nsh nsf nss nrc (nI jr16923) 5 (nI jno) (fnw (1424 + 8 * jno + 0)) (fnw (1424 + 8 * jno + 4)) ip16924), (nrc, iA G 30 gtrc6925)]) hP hD (fun hP hD => ?_)
          obtain ⟨hr6921, w6926⟩ := hr6921
          refine lv_istore (lv' := [(7, .int r6921), (6, .int 1), (5, .int 0), (4, .int 5), (0, .ref h0), (1, .int (nI jt)), (2, .int 1), (3, .int x3)]) hx hb gX12_deal_11.2.2.2.1 hl (by decide) rfl (fun ls hl => ?_)
          refine lv_aload_n hx hb gX12_deal_11.2.2.2.2.1 rfl (lv_at4 hl) ?_
          refine gf_X12_380 hC rfl hK hP 3 rfl rfl gX12_deal_11.2.2.2.2.2.1 ?_
          refine lv_if_eq (tgt := 222) hx hb gX12_deal_11.2.2.2.2.2.2.1 (by decide) (fun c_214_6927 => ?_) (fun c_214_6927 => ?_)
          · refine lv_iload hx hb gX12_deal_11.2.2.2.2.2.2.2.2.2 (lv_at0 hl) ?_
            refine toQ hQ0 ?_
            exact RI (v := r6921) hC hP hD hS [3, 0, 1, 2, 4] (jr16923, 5, nI jno, fnw (1424 + 8 * jno + 0), fnw (1424 + 8 * jno + 4), ip16924, gtrc6925) rfl rfl (by decide) (⟨trivial, by omega⟩) rfl gX12_deal_12
          · refine lv_bipush (v := (-15)) hx hb gX12_deal_11.2.2.2.2.2.2.2.1 (by decide) ?_
            refine lv_goto (tgt := 224) hx hb gX12_deal_11.2.2.2.2.2.2.2.2.1 (by decide) ?_
            refine toQ hQ0 ?_
            exact RI (v := (-15)) hC hP hD hS [3, 0, 1, 2, 4] (jr16923, 5, nI jno, fnw (1424 + 8 * jno + 0), fnw (1424 + 8 * jno + 4), ip16924, gtrc6925) rfl rfl (by decide) (⟨trivial, by omega⟩) rfl gX12_deal_12
        · refine lv_aload_n hx hb gX12_deal_10.2.2.2.2.2.2.2.2.2 rfl (lv_at3 hl) ?_
          refine lv_iload_n hx hb gX12_deal_11.1 rfl (lv_at5 hl) ?_
          refine lv_iload_n hx hb gX12_deal_11.2.1 rfl (lv_at6 hl) ?_
          refine iV (wr := [(nw, iA G 1662 fnw), (nsh, iA G 4 fnsh), (nsf, iA G 4 fnsf)]) hC hK hl hP hD hS hA (m_dealt2 l G h0 x3 nw nk mhasKept nt mtaped nr mrowMany mroundOf mroundFrom mouts nm mfromHour mtoHour ns mfrom mto msort misFault mdeep mcoded mlines nl nc nF np ntr nb mbestCost nso nsi nit nsh nsf nss nrc 0 5 (nI jno) (fnw (1424 + 8 * jno + 0)) (fnw (1424 + 8 * jno + 4)) 0 fnrc (by omega) (by omega)) si_X12_372 [0, 4] [1, 2, 3] sm_0_4 fm_0_4 nd_0_4 sm_1_2_3 nd_1_2_3 dj_0_4__1_2_3 rfl rfl rfl rfl rfl (Nat.le_of_ble_eq_true rfl) rm_60_38_3 ⟨Nat.le_of_ble_eq_true rfl, Nat.le_of_ble_eq_true rfl⟩ gX12_deal_11.2.2.1 (fun r6928 => Ktu3 fun jr16930 ip16931 gtrc6932 => ?_)
          intro H locs hr6928 hP hD hS
          try dsimp only at hr6928
          refine Kpdr (ws := [(nw, iA G 1662 fnw), (nsh, iA G 4 fnsh), (nsf, iA G 4 fnsf), (h0, oX12 nw nk mhasKept nt mtaped nr mrowMany mroundOf mroundFrom mouts nm mfromHour mtoHour ns mfrom mto msort misFault mdeep mcoded mlines nl nc nF np ntr nb mbestCost nso nsi nit nsh nsf nss nrc (nI jr16930) 5 (nI jno) (fnw (1424 + 8 * jno + 0)) (fnw (1424 + 8 * jno + 4)) ip16931), (nrc, iA G 30 gtrc6932)]) hP hD (fun hP hD => ?_)
          obtain ⟨hr6928, w6933⟩ := hr6928
          refine lv_istore (lv' := [(7, .int r6928), (6, .int 1), (5, .int 0), (4, .int 5), (0, .ref h0), (1, .int (nI jt)), (2, .int 2), (3, .int x3)]) hx hb gX12_deal_11.2.2.2.1 hl (by decide) rfl (fun ls hl => ?_)
          refine lv_aload_n hx hb gX12_deal_11.2.2.2.2.1 rfl (lv_at4 hl) ?_
          refine gf_X12_380 hC rfl hK hP 3 rfl rfl gX12_deal_11.2.2.2.2.2.1 ?_
          refine lv_if_eq (tgt := 222) hx hb gX12_deal_11.2.2.2.2.2.2.1 (by decide) (fun c_214_6934 => ?_) (fun c_214_6934 => ?_)
          · refine lv_iload hx hb gX12_deal_11.2.2.2.2.2.2.2.2.2 (lv_at0 hl) ?_
            refine toQ hQ0 ?_
            exact RI (v := r6928) hC hP hD hS [3, 0, 1, 2, 4] (jr16930, 5, nI jno, fnw (1424 + 8 * jno + 0), fnw (1424 + 8 * jno + 4), ip16931, gtrc6932) rfl rfl (by decide) (⟨trivial, by omega⟩) rfl gX12_deal_12
          · refine lv_bipush (v := (-15)) hx hb gX12_deal_11.2.2.2.2.2.2.2.1 (by decide) ?_
            refine lv_goto (tgt := 224) hx hb gX12_deal_11.2.2.2.2.2.2.2.2.1 (by decide) ?_
            refine toQ hQ0 ?_
            exact RI (v := (-15)) hC hP hD hS [3, 0, 1, 2, 4] (jr16930, 5, nI jno, fnw (1424 + 8 * jno + 0), fnw (1424 + 8 * jno + 4), ip16931, gtrc6932) rfl rfl (by decide) (⟨trivial, by omega⟩) rfl gX12_deal_12
        · refine lv_aload_n hx hb gX12_deal_10.2.2.2.2.2.2.2.2.2 rfl (lv_at3 hl) ?_
          refine lv_iload_n hx hb gX12_deal_11.1 rfl (lv_at5 hl) ?_
          refine lv_iload_n hx hb gX12_deal_11.2.1 rfl (lv_at6 hl) ?_
          refine iV (wr := [(nw, iA G 1662 fnw), (nsh, iA G 4 fnsh), (nsf, iA G 4 fnsf)]) hC hK hl hP hD hS hA (m_dealt3 l G h0 x3 nw nk mhasKept nt mtaped nr mrowMany mroundOf mroundFrom mouts nm mfromHour mtoHour ns mfrom mto msort misFault mdeep mcoded mlines nl nc nF np ntr nb mbestCost nso nsi nit nsh nsf nss nrc 0 5 (nI jno) (fnw (1424 + 8 * jno + 0)) (fnw (1424 + 8 * jno + 4)) 0 fnrc (by omega) (by omega)) si_X12_372 [0, 4] [1, 2, 3] sm_0_4 fm_0_4 nd_0_4 sm_1_2_3 nd_1_2_3 dj_0_4__1_2_3 rfl rfl rfl rfl rfl (Nat.le_of_ble_eq_true rfl) rm_60_50_3 ⟨Nat.le_of_ble_eq_true rfl, Nat.le_of_ble_eq_true rfl⟩ gX12_deal_11.2.2.1 (fun r6935 => Ktu3 fun jr16937 ip16938 gtrc6939 => ?_)
          intro H locs hr6935 hP hD hS
          try dsimp only at hr6935
          refine Kpdr (ws := [(nw, iA G 1662 fnw), (nsh, iA G 4 fnsh), (nsf, iA G 4 fnsf), (h0, oX12 nw nk mhasKept nt mtaped nr mrowMany mroundOf mroundFrom mouts nm mfromHour mtoHour ns mfrom mto msort misFault mdeep mcoded mlines nl nc nF np ntr nb mbestCost nso nsi nit nsh nsf nss nrc (nI jr16937) 5 (nI jno) (fnw (1424 + 8 * jno + 0)) (fnw (1424 + 8 * jno + 4)) ip16938), (nrc, iA G 30 gtrc6939)]) hP hD (fun hP hD => ?_)
          obtain ⟨hr6935, w6940⟩ := hr6935
          refine lv_istore (lv' := [(7, .int r6935), (6, .int 1), (5, .int 0), (4, .int 5), (0, .ref h0), (1, .int (nI jt)), (2, .int 3), (3, .int x3)]) hx hb gX12_deal_11.2.2.2.1 hl (by decide) rfl (fun ls hl => ?_)
          refine lv_aload_n hx hb gX12_deal_11.2.2.2.2.1 rfl (lv_at4 hl) ?_
          refine gf_X12_380 hC rfl hK hP 3 rfl rfl gX12_deal_11.2.2.2.2.2.1 ?_
          refine lv_if_eq (tgt := 222) hx hb gX12_deal_11.2.2.2.2.2.2.1 (by decide) (fun c_214_6941 => ?_) (fun c_214_6941 => ?_)
          · refine lv_iload hx hb gX12_deal_11.2.2.2.2.2.2.2.2.2 (lv_at0 hl) ?_
            refine toQ hQ0 ?_
            exact RI (v := r6935) hC hP hD hS [3, 0, 1, 2, 4] (jr16937, 5, nI jno, fnw (1424 + 8 * jno + 0), fnw (1424 + 8 * jno + 4), ip16938, gtrc6939) rfl rfl (by decide) (⟨trivial, by omega⟩) rfl gX12_deal_12
          · refine lv_bipush (v := (-15)) hx hb gX12_deal_11.2.2.2.2.2.2.2.1 (by decide) ?_
            refine lv_goto (tgt := 224) hx hb gX12_deal_11.2.2.2.2.2.2.2.2.1 (by decide) ?_
            refine toQ hQ0 ?_
            exact RI (v := (-15)) hC hP hD hS [3, 0, 1, 2, 4] (jr16937, 5, nI jno, fnw (1424 + 8 * jno + 0), fnw (1424 + 8 * jno + 4), ip16938, gtrc6939) rfl rfl (by decide) (⟨trivial, by omega⟩) rfl gX12_deal_12
      · refine lv_istore (lv' := [(4, .int 6), (0, .ref h0), (1, .int (nI jt)), (2, .int x2), (3, .int x3)]) hx hb gX12_deal_1.2.2.2.2.1 hl (by decide) rfl (fun ls hl => ?_)
        refine lv_iload hx hb gX12_deal_1.2.2.2.2.2.1 (lv_at0 hl) ?_
        refine lv_if_ge (tgt := 37) hx hb gX12_deal_1.2.2.2.2.2.2.1 (by decide) (fun _ => ?_) (fun c9 => absurd (by decide) c9)
        refine lv_aload_n hx hb gX12_deal_1.2.2.2.2.2.2.2.2.2 rfl (lv_at1 hl) ?_
        refine lv_iload hx hb gX12_deal_2.1 (lv_at0 hl) ?_
        refine pf_X12_354 hC rfl hK hP hD hS 0 (ws' := [(h0, oX12 nw nk mhasKept nt mtaped nr mrowMany mroundOf mroundFrom mouts nm mfromHour mtoHour ns mfrom mto msort misFault mdeep mcoded mlines nl nc nF np ntr nb mbestCost nso nsi nit nsh nsf nss nrc 0 6 mnumber mwhose msize misParted), (nw, iA G 1662 fnw), (nsh, iA G 4 fnsh), (nsf, iA G 4 fnsf), (nrc, iA G 30 fnrc)]) rfl (Nat.le_of_ble_eq_true rfl) rfl rfl rfl gX12_deal_2.2.1 (fun H locs hP hD hS => ?_)
        refine lv_aload_n hx hb gX12_deal_2.2.2.1 rfl (lv_at1 hl) ?_
        refine lv_aload_n hx hb gX12_deal_2.2.2.2.1 rfl (lv_at1 hl) ?_
        refine gf_X12_75 hC rfl hK hP 0 rfl rfl gX12_deal_2.2.2.2.2.1 ?_
        refine lv_iload_n hx hb gX12_deal_2.2.2.2.2.2.1 rfl (lv_at2 hl) ?_
        refine aldN hC hK hP 3 rfl (k := jt) (by omega) (Nat.le_of_ble_eq_true rfl) (v := fnsf jt) rfl gX12_deal_2.2.2.2.2.2.2.1 ?_
        refine lv_topi (fun x6942 ex6942 => ?_)
        obtain ⟨hko9, jno, hjno, ejno⟩ := a6766
        refine eqi (x1 := nI jno) (ex6942.trans ejno) ?_
        refine pf_X12_378 hC rfl hK hP hD hS 0 (ws' := [(h0, oX12 nw nk mhasKept nt mtaped nr mrowMany mroundOf mroundFrom mouts nm mfromHour mtoHour ns mfrom mto msort misFault mdeep mcoded mlines nl nc nF np ntr nb mbestCost nso nsi nit nsh nsf nss nrc 0 6 (nI jno) mwhose msize misParted), (nw, iA G 1662 fnw), (nsh, iA G 4 fnsh), (nsf, iA G 4 fnsf), (nrc, iA G 30 fnrc)]) rfl (Nat.le_of_ble_eq_true rfl) rfl rfl rfl gX12_deal_2.2.2.2.2.2.2.2.1 (fun H locs hP hD hS => ?_)
        refine lv_aload_n hx hb gX12_deal_2.2.2.2.2.2.2.2.2.1 rfl (lv_at1 hl) ?_
        refine gf_X12_72 hC rfl hK hP 0 rfl rfl gX12_deal_2.2.2.2.2.2.2.2.2.2 ?_
        refine lv_iload_n hx hb gX12_deal_3.1 rfl (lv_at2 hl) ?_
        refine aldN hC hK hP 2 rfl (k := jt) (by omega) (Nat.le_of_ble_eq_true rfl) (v := fnsh jt) rfl gX12_deal_3.2.1 ?_
        refine lv_topi (fun x6943 ex6943 => ?_)
        refine lv_iconst (v := 1) hx hb gX12_deal_3.2.2.1 (by decide) ?_
        refine lv_icmp_ne (tgt := 67) hx hb gX12_deal_3.2.2.2.1 (by decide) (fun _ => ?_) (fun c9 => absurd c9 (fun h9 => absurd (hko9.symm.trans ((ex6943.symm).trans h9)) (by decide)))
        refine lv_iconst (v := 0) hx hb gX12_deal_3.2.2.2.2.2.2.1 (by decide) ?_
        refine lv_istore (lv' := [(5, .int 0), (4, .int 6), (0, .ref h0), (1, .int (nI jt)), (2, .int x2), (3, .int x3)]) hx hb gX12_deal_3.2.2.2.2.2.2.2.1 hl (by decide) rfl (fun ls hl => ?_)
        refine lv_aload_n hx hb gX12_deal_3.2.2.2.2.2.2.2.2.1 rfl (lv_at2 hl) ?_
        refine gf_X12_72 hC rfl hK hP 0 rfl rfl gX12_deal_3.2.2.2.2.2.2.2.2.2 ?_
        refine lv_iload_n hx hb gX12_deal_4.1 rfl (lv_at3 hl) ?_
        refine aldN hC hK hP 2 rfl (k := jt) (by omega) (Nat.le_of_ble_eq_true rfl) (v := fnsh jt) rfl gX12_deal_4.2.1 ?_
        refine lv_topi (fun x6944 ex6944 => ?_)
        refine lv_iconst (v := 2) hx hb gX12_deal_4.2.2.1 (by decide) ?_
        refine lv_icmp_ne (tgt := 84) hx hb gX12_deal_4.2.2.2.1 (by decide) (fun _ => ?_) (fun c9 => absurd c9 (fun h9 => absurd (hko9.symm.trans ((ex6944.symm).trans h9)) (by decide)))
        refine lv_iconst (v := 0) hx hb gX12_deal_4.2.2.2.2.2.2.1 (by decide) ?_
        refine lv_istore (lv' := [(6, .int 0), (5, .int 0), (4, .int 6), (0, .ref h0), (1, .int (nI jt)), (2, .int x2), (3, .int x3)]) hx hb gX12_deal_4.2.2.2.2.2.2.2.1 hl (by decide) rfl (fun ls hl => ?_)
        refine lv_aload_n hx hb gX12_deal_4.2.2.2.2.2.2.2.2.1 rfl (lv_at3 hl) ?_
        refine lv_iload hx hb gX12_deal_4.2.2.2.2.2.2.2.2.2 (lv_at1 hl) ?_
        refine lv_if_eq (tgt := 105) hx hb gX12_deal_5.1 (by decide) (fun _ => ?_) (fun c9 => absurd (by decide) c9)
        refine lv_iload hx hb gX12_deal_5.2.2.2.2.2.2.2.1 (lv_at0 hl) ?_
        refine lv_if_eq (tgt := 122) hx hb gX12_deal_5.2.2.2.2.2.2.2.2.1 (by decide) (fun _ => ?_) (fun c9 => absurd (by decide) c9)
        refine lv_aload_n hx hb gX12_deal_6.2.2.2.2.2.1 rfl (lv_at3 hl) ?_
        refine gf_X12_9 hC rfl hK hP 0 rfl rfl gX12_deal_6.2.2.2.2.2.2.1 ?_
        refine lv_sipush (v := 1552) hx hb gX12_deal_6.2.2.2.2.2.2.2.1 (by decide) ?_
        refine lv_iconst (v := 4) hx hb gX12_deal_6.2.2.2.2.2.2.2.2.1 (by decide) ?_
        refine lv_aload_n hx hb gX12_deal_6.2.2.2.2.2.2.2.2.2 rfl (lv_at3 hl) ?_
        refine gf_X12_378 hC rfl hK hP 0 rfl rfl gX12_deal_7.1 ?_
        refine lv_imul hx hb gX12_deal_7.2.1 ?_
        refine eqi (x1 := nI (4 * jno)) (nI_mul 4 jno) ?_
        refine lv_iadd hx hb gX12_deal_7.2.2.1 ?_
        refine eqi (x1 := nI (1552 + 4 * jno)) (nI_add 1552 (4 * jno)) ?_
        refine lv_iconst (v := 0) hx hb gX12_deal_7.2.2.2.1 (by decide) ?_
        refine lv_iadd hx hb gX12_deal_7.2.2.2.2.1 ?_
        refine eqi (x1 := nI (1552 + 4 * jno + 0)) (nI_add (1552 + 4 * jno) 0) ?_
        refine aldN hC hK hP 1 rfl (k := (1552 + 4 * jno + 0)) (by omega) (Nat.le_of_ble_eq_true rfl) (v := fnw (1552 + 4 * jno + 0)) rfl gX12_deal_7.2.2.2.2.2.1 ?_
        refine lv_topi (fun x6945 ex6945 => ?_)
        refine pf_X12_375 hC rfl hK hP hD hS 0 (ws' := [(h0, oX12 nw nk mhasKept nt mtaped nr mrowMany mroundOf mroundFrom mouts nm mfromHour mtoHour ns mfrom mto msort misFault mdeep mcoded mlines nl nc nF np ntr nb mbestCost nso nsi nit nsh nsf nss nrc 0 6 (nI jno) x6945 msize misParted), (nw, iA G 1662 fnw), (nsh, iA G 4 fnsh), (nsf, iA G 4 fnsf), (nrc, iA G 30 fnrc)]) rfl (Nat.le_of_ble_eq_true rfl) rfl rfl rfl gX12_deal_7.2.2.2.2.2.2.1 (fun H locs hP hD hS => ?_)
        refine lv_aload_n hx hb gX12_deal_7.2.2.2.2.2.2.2.1 rfl (lv_at3 hl) ?_
        refine lv_iload hx hb gX12_deal_7.2.2.2.2.2.2.2.2.1 (lv_at1 hl) ?_
        refine lv_if_eq (tgt := 160) hx hb gX12_deal_7.2.2.2.2.2.2.2.2.2 (by decide) (fun _ => ?_) (fun c9 => absurd (by decide) c9)
        refine lv_iload hx hb gX12_deal_8.2.2.2.2.2.2.1 (lv_at0 hl) ?_
        refine lv_if_eq (tgt := 177) hx hb gX12_deal_8.2.2.2.2.2.2.2.1 (by decide) (fun _ => ?_) (fun c9 => absurd (by decide) c9)
        refine lv_aload_n hx hb gX12_deal_9.2.2.2.2.1 rfl (lv_at3 hl) ?_
        refine gf_X12_9 hC rfl hK hP 0 rfl rfl gX12_deal_9.2.2.2.2.2.1 ?_
        refine lv_sipush (v := 1552) hx hb gX12_deal_9.2.2.2.2.2.2.1 (by decide) ?_
        refine lv_iconst (v := 4) hx hb gX12_deal_9.2.2.2.2.2.2.2.1 (by decide) ?_
        refine lv_aload_n hx hb gX12_deal_9.2.2.2.2.2.2.2.2.1 rfl (lv_at3 hl) ?_
        refine gf_X12_378 hC rfl hK hP 0 rfl rfl gX12_deal_9.2.2.2.2.2.2.2.2.2 ?_
        refine lv_imul hx hb gX12_deal_10.1 ?_
        refine eqi (x1 := nI (4 * jno)) (nI_mul 4 jno) ?_
        refine lv_iadd hx hb gX12_deal_10.2.1 ?_
        refine eqi (x1 := nI (1552 + 4 * jno)) (nI_add 1552 (4 * jno)) ?_
        refine lv_iconst (v := 2) hx hb gX12_deal_10.2.2.1 (by decide) ?_
        refine lv_iadd hx hb gX12_deal_10.2.2.2.1 ?_
        refine eqi (x1 := nI (1552 + 4 * jno + 2)) (nI_add (1552 + 4 * jno) 2) ?_
        refine aldN hC hK hP 1 rfl (k := (1552 + 4 * jno + 2)) (by omega) (Nat.le_of_ble_eq_true rfl) (v := fnw (1552 + 4 * jno + 2)) rfl gX12_deal_10.2.2.2.2.1 ?_
        refine lv_topi (fun x6946 ex6946 => ?_)
        refine pf_X12_369 hC rfl hK hP hD hS 0 (ws' := [(h0, oX12 nw nk mhasKept nt mtaped nr mrowMany mroundOf mroundFrom mouts nm mfromHour mtoHour ns mfrom mto msort misFault mdeep mcoded mlines nl nc nF np ntr nb mbestCost nso nsi nit nsh nsf nss nrc 0 6 (nI jno) x6945 x6946 misParted), (nw, iA G 1662 fnw), (nsh, iA G 4 fnsh), (nsf, iA G 4 fnsf), (nrc, iA G 30 fnrc)]) rfl (Nat.le_of_ble_eq_true rfl) rfl rfl rfl gX12_deal_10.2.2.2.2.2.1 (fun H locs hP hD hS => ?_)
        refine lv_aload_n hx hb gX12_deal_10.2.2.2.2.2.2.1 rfl (lv_at3 hl) ?_
        refine lv_iconst (v := 0) hx hb gX12_deal_10.2.2.2.2.2.2.2.1 (by decide) ?_
        refine pf_X12_380 hC rfl hK hP hD hS 0 (ws' := [(h0, oX12 nw nk mhasKept nt mtaped nr mrowMany mroundOf mroundFrom mouts nm mfromHour mtoHour ns mfrom mto msort misFault mdeep mcoded mlines nl nc nF np ntr nb mbestCost nso nsi nit nsh nsf nss nrc 0 6 (nI jno) x6945 x6946 0), (nw, iA G 1662 fnw), (nsh, iA G 4 fnsh), (nsf, iA G 4 fnsf), (nrc, iA G 30 fnrc)]) rfl (Nat.le_of_ble_eq_true rfl) rfl (by decide +kernel) (by decide +kernel) gX12_deal_10.2.2.2.2.2.2.2.2.1 (fun H locs hP hD hS => ?_)
        obtain ⟨jdl, hjdl, rfl⟩ := Wi_nat (N := 3) (by decide) a6764
        rcases (show jdl = 0 ∨ jdl = 1 ∨ jdl = 2 ∨ jdl = 3 by omega) with rfl | rfl | rfl | rfl
        · refine lv_aload_n hx hb gX12_deal_10.2.2.2.2.2.2.2.2.2 rfl (lv_at3 hl) ?_
          refine lv_iload_n hx hb gX12_deal_11.1 rfl (lv_at5 hl) ?_
          refine lv_iload_n hx hb gX12_deal_11.2.1 rfl (lv_at6 hl) ?_
          refine iV (wr := [(nw, iA G 1662 fnw), (nsh, iA G 4 fnsh), (nsf, iA G 4 fnsf)]) hC hK hl hP hD hS hA (m_dealt0 l G h0 x3 nw nk mhasKept nt mtaped nr mrowMany mroundOf mroundFrom mouts nm mfromHour mtoHour ns mfrom mto msort misFault mdeep mcoded mlines nl nc nF np ntr nb mbestCost nso nsi nit nsh nsf nss nrc 0 6 (nI jno) x6945 x6946 0 fnrc (by omega) (by omega)) si_X12_372 [0, 4] [1, 2, 3] sm_0_4 fm_0_4 nd_0_4 sm_1_2_3 nd_1_2_3 dj_0_4__1_2_3 rfl rfl rfl rfl rfl (Nat.le_of_ble_eq_true rfl) rm_60_14_3 ⟨Nat.le_of_ble_eq_true rfl, Nat.le_of_ble_eq_true rfl⟩ gX12_deal_11.2.2.1 (fun r6947 => Ktu3 fun jr16949 ip16950 gtrc6951 => ?_)
          intro H locs hr6947 hP hD hS
          try dsimp only at hr6947
          refine Kpdr (ws := [(nw, iA G 1662 fnw), (nsh, iA G 4 fnsh), (nsf, iA G 4 fnsf), (h0, oX12 nw nk mhasKept nt mtaped nr mrowMany mroundOf mroundFrom mouts nm mfromHour mtoHour ns mfrom mto msort misFault mdeep mcoded mlines nl nc nF np ntr nb mbestCost nso nsi nit nsh nsf nss nrc (nI jr16949) 6 (nI jno) x6945 x6946 ip16950), (nrc, iA G 30 gtrc6951)]) hP hD (fun hP hD => ?_)
          obtain ⟨hr6947, w6952⟩ := hr6947
          refine lv_istore (lv' := [(7, .int r6947), (6, .int 0), (5, .int 0), (4, .int 6), (0, .ref h0), (1, .int (nI jt)), (2, .int 0), (3, .int x3)]) hx hb gX12_deal_11.2.2.2.1 hl (by decide) rfl (fun ls hl => ?_)
          refine lv_aload_n hx hb gX12_deal_11.2.2.2.2.1 rfl (lv_at4 hl) ?_
          refine gf_X12_380 hC rfl hK hP 3 rfl rfl gX12_deal_11.2.2.2.2.2.1 ?_
          refine lv_if_eq (tgt := 222) hx hb gX12_deal_11.2.2.2.2.2.2.1 (by decide) (fun c_214_6953 => ?_) (fun c_214_6953 => ?_)
          · refine lv_iload hx hb gX12_deal_11.2.2.2.2.2.2.2.2.2 (lv_at0 hl) ?_
            refine toQ hQ0 ?_
            exact RI (v := r6947) hC hP hD hS [3, 0, 1, 2, 4] (jr16949, 6, nI jno, x6945, x6946, ip16950, gtrc6951) rfl rfl (by decide) (⟨trivial, by omega⟩) rfl gX12_deal_12
          · refine lv_bipush (v := (-15)) hx hb gX12_deal_11.2.2.2.2.2.2.2.1 (by decide) ?_
            refine lv_goto (tgt := 224) hx hb gX12_deal_11.2.2.2.2.2.2.2.2.1 (by decide) ?_
            refine toQ hQ0 ?_
            exact RI (v := (-15)) hC hP hD hS [3, 0, 1, 2, 4] (jr16949, 6, nI jno, x6945, x6946, ip16950, gtrc6951) rfl rfl (by decide) (⟨trivial, by omega⟩) rfl gX12_deal_12
        · refine lv_aload_n hx hb gX12_deal_10.2.2.2.2.2.2.2.2.2 rfl (lv_at3 hl) ?_
          refine lv_iload_n hx hb gX12_deal_11.1 rfl (lv_at5 hl) ?_
          refine lv_iload_n hx hb gX12_deal_11.2.1 rfl (lv_at6 hl) ?_
          refine iV (wr := [(nw, iA G 1662 fnw), (nsh, iA G 4 fnsh), (nsf, iA G 4 fnsf)]) hC hK hl hP hD hS hA (m_dealt1 l G h0 x3 nw nk mhasKept nt mtaped nr mrowMany mroundOf mroundFrom mouts nm mfromHour mtoHour ns mfrom mto msort misFault mdeep mcoded mlines nl nc nF np ntr nb mbestCost nso nsi nit nsh nsf nss nrc 0 6 (nI jno) x6945 x6946 0 fnrc (by omega) (by omega)) si_X12_372 [0, 4] [1, 2, 3] sm_0_4 fm_0_4 nd_0_4 sm_1_2_3 nd_1_2_3 dj_0_4__1_2_3 rfl rfl rfl rfl rfl (Nat.le_of_ble_eq_true rfl) rm_60_26_3 ⟨Nat.le_of_ble_eq_true rfl, Nat.le_of_ble_eq_true rfl⟩ gX12_deal_11.2.2.1 (fun r6954 => Ktu3 fun jr16956 ip16957 gtrc6958 => ?_)
          intro H locs hr6954 hP hD hS
          try dsimp only at hr6954
          refine Kpdr (ws := [(nw, iA G 1662 fnw), (nsh, iA G 4 fnsh), (nsf, iA G 4 fnsf), (h0, oX12 nw nk mhasKept nt mtaped nr mrowMany mroundOf mroundFrom mouts nm mfromHour mtoHour ns mfrom mto msort misFault mdeep mcoded mlines nl nc nF np ntr nb mbestCost nso nsi nit nsh nsf nss nrc (nI jr16956) 6 (nI jno) x6945 x6946 ip16957), (nrc, iA G 30 gtrc6958)]) hP hD (fun hP hD => ?_)
          obtain ⟨hr6954, w6959⟩ := hr6954
          refine lv_istore (lv' := [(7, .int r6954), (6, .int 0), (5, .int 0), (4, .int 6), (0, .ref h0), (1, .int (nI jt)), (2, .int 1), (3, .int x3)]) hx hb gX12_deal_11.2.2.2.1 hl (by decide) rfl (fun ls hl => ?_)
          refine lv_aload_n hx hb gX12_deal_11.2.2.2.2.1 rfl (lv_at4 hl) ?_
          refine gf_X12_380 hC rfl hK hP 3 rfl rfl gX12_deal_11.2.2.2.2.2.1 ?_
          refine lv_if_eq (tgt := 222) hx hb gX12_deal_11.2.2.2.2.2.2.1 (by decide) (fun c_214_6960 => ?_) (fun c_214_6960 => ?_)
          · refine lv_iload hx hb gX12_deal_11.2.2.2.2.2.2.2.2.2 (lv_at0 hl) ?_
            refine toQ hQ0 ?_
            exact RI (v := r6954) hC hP hD hS [3, 0, 1, 2, 4] (jr16956, 6, nI jno, x6945, x6946, ip16957, gtrc6958) rfl rfl (by decide) (⟨trivial, by omega⟩) rfl gX12_deal_12
          · refine lv_bipush (v := (-15)) hx hb gX12_deal_11.2.2.2.2.2.2.2.1 (by decide) ?_
            refine lv_goto (tgt := 224) hx hb gX12_deal_11.2.2.2.2.2.2.2.2.1 (by decide) ?_
            refine toQ hQ0 ?_
            exact RI (v := (-15)) hC hP hD hS [3, 0, 1, 2, 4] (jr16956, 6, nI jno, x6945, x6946, ip16957, gtrc6958) rfl rfl (by decide) (⟨trivial, by omega⟩) rfl gX12_deal_12
        · refine lv_aload_n hx hb gX12_deal_10.2.2.2.2.2.2.2.2.2 rfl (lv_at3 hl) ?_
          refine lv_iload_n hx hb gX12_deal_11.1 rfl (lv_at5 hl) ?_
          refine lv_iload_n hx hb gX12_deal_11.2.1 rfl (lv_at6 hl) ?_
          refine iV (wr := [(nw, iA G 1662 fnw), (nsh, iA G 4 fnsh), (nsf, iA G 4 fnsf)]) hC hK hl hP hD hS hA (m_dealt2 l G h0 x3 nw nk mhasKept nt mtaped nr mrowMany mroundOf mroundFrom mouts nm mfromHour mtoHour ns mfrom mto msort misFault mdeep mcoded mlines nl nc nF np ntr nb mbestCost nso nsi nit nsh nsf nss nrc 0 6 (nI jno) x6945 x6946 0 fnrc (by omega) (by omega)) si_X12_372 [0, 4] [1, 2, 3] sm_0_4 fm_0_4 nd_0_4 sm_1_2_3 nd_1_2_3 dj_0_4__1_2_3 rfl rfl rfl rfl rfl (Nat.le_of_ble_eq_true rfl) rm_60_38_3 ⟨Nat.le_of_ble_eq_true rfl, Nat.le_of_ble_eq_true rfl⟩ gX12_deal_11.2.2.1 (fun r6961 => Ktu3 fun jr16963 ip16964 gtrc6965 => ?_)
          intro H locs hr6961 hP hD hS
          try dsimp only at hr6961
          refine Kpdr (ws := [(nw, iA G 1662 fnw), (nsh, iA G 4 fnsh), (nsf, iA G 4 fnsf), (h0, oX12 nw nk mhasKept nt mtaped nr mrowMany mroundOf mroundFrom mouts nm mfromHour mtoHour ns mfrom mto msort misFault mdeep mcoded mlines nl nc nF np ntr nb mbestCost nso nsi nit nsh nsf nss nrc (nI jr16963) 6 (nI jno) x6945 x6946 ip16964), (nrc, iA G 30 gtrc6965)]) hP hD (fun hP hD => ?_)
          obtain ⟨hr6961, w6966⟩ := hr6961
          refine lv_istore (lv' := [(7, .int r6961), (6, .int 0), (5, .int 0), (4, .int 6), (0, .ref h0), (1, .int (nI jt)), (2, .int 2), (3, .int x3)]) hx hb gX12_deal_11.2.2.2.1 hl (by decide) rfl (fun ls hl => ?_)
          refine lv_aload_n hx hb gX12_deal_11.2.2.2.2.1 rfl (lv_at4 hl) ?_
          refine gf_X12_380 hC rfl hK hP 3 rfl rfl gX12_deal_11.2.2.2.2.2.1 ?_
          refine lv_if_eq (tgt := 222) hx hb gX12_deal_11.2.2.2.2.2.2.1 (by decide) (fun c_214_6967 => ?_) (fun c_214_6967 => ?_)
          · refine lv_iload hx hb gX12_deal_11.2.2.2.2.2.2.2.2.2 (lv_at0 hl) ?_
            refine toQ hQ0 ?_
            exact RI (v := r6961) hC hP hD hS [3, 0, 1, 2, 4] (jr16963, 6, nI jno, x6945, x6946, ip16964, gtrc6965) rfl rfl (by decide) (⟨trivial, by omega⟩) rfl gX12_deal_12
          · refine lv_bipush (v := (-15)) hx hb gX12_deal_11.2.2.2.2.2.2.2.1 (by decide) ?_
            refine lv_goto (tgt := 224) hx hb gX12_deal_11.2.2.2.2.2.2.2.2.1 (by decide) ?_
            refine toQ hQ0 ?_
            exact RI (v := (-15)) hC hP hD hS [3, 0, 1, 2, 4] (jr16963, 6, nI jno, x6945, x6946, ip16964, gtrc6965) rfl rfl (by decide) (⟨trivial, by omega⟩) rfl gX12_deal_12
        · refine lv_aload_n hx hb gX12_deal_10.2.2.2.2.2.2.2.2.2 rfl (lv_at3 hl) ?_
          refine lv_iload_n hx hb gX12_deal_11.1 rfl (lv_at5 hl) ?_
          refine lv_iload_n hx hb gX12_deal_11.2.1 rfl (lv_at6 hl) ?_
          refine iV (wr := [(nw, iA G 1662 fnw), (nsh, iA G 4 fnsh), (nsf, iA G 4 fnsf)]) hC hK hl hP hD hS hA (m_dealt3 l G h0 x3 nw nk mhasKept nt mtaped nr mrowMany mroundOf mroundFrom mouts nm mfromHour mtoHour ns mfrom mto msort misFault mdeep mcoded mlines nl nc nF np ntr nb mbestCost nso nsi nit nsh nsf nss nrc 0 6 (nI jno) x6945 x6946 0 fnrc (by omega) (by omega)) si_X12_372 [0, 4] [1, 2, 3] sm_0_4 fm_0_4 nd_0_4 sm_1_2_3 nd_1_2_3 dj_0_4__1_2_3 rfl rfl rfl rfl rfl (Nat.le_of_ble_eq_true rfl) rm_60_50_3 ⟨Nat.le_of_ble_eq_true rfl, Nat.le_of_ble_eq_true rfl⟩ gX12_deal_11.2.2.1 (fun r6968 => Ktu3 fun jr16970 ip16971 gtrc6972 => ?_)
          intro H locs hr6968 hP hD hS
          try dsimp only at hr6968
          refine Kpdr (ws := [(nw, iA G 1662 fnw), (nsh, iA G 4 fnsh), (nsf, iA G 4 fnsf), (h0, oX12 nw nk mhasKept nt mtaped nr mrowMany mroundOf mroundFrom mouts nm mfromHour mtoHour ns mfrom mto msort misFault mdeep mcoded mlines nl nc nF np ntr nb mbestCost nso nsi nit nsh nsf nss nrc (nI jr16970) 6 (nI jno) x6945 x6946 ip16971), (nrc, iA G 30 gtrc6972)]) hP hD (fun hP hD => ?_)
          obtain ⟨hr6968, w6973⟩ := hr6968
          refine lv_istore (lv' := [(7, .int r6968), (6, .int 0), (5, .int 0), (4, .int 6), (0, .ref h0), (1, .int (nI jt)), (2, .int 3), (3, .int x3)]) hx hb gX12_deal_11.2.2.2.1 hl (by decide) rfl (fun ls hl => ?_)
          refine lv_aload_n hx hb gX12_deal_11.2.2.2.2.1 rfl (lv_at4 hl) ?_
          refine gf_X12_380 hC rfl hK hP 3 rfl rfl gX12_deal_11.2.2.2.2.2.1 ?_
          refine lv_if_eq (tgt := 222) hx hb gX12_deal_11.2.2.2.2.2.2.1 (by decide) (fun c_214_6974 => ?_) (fun c_214_6974 => ?_)
          · refine lv_iload hx hb gX12_deal_11.2.2.2.2.2.2.2.2.2 (lv_at0 hl) ?_
            refine toQ hQ0 ?_
            exact RI (v := r6968) hC hP hD hS [3, 0, 1, 2, 4] (jr16970, 6, nI jno, x6945, x6946, ip16971, gtrc6972) rfl rfl (by decide) (⟨trivial, by omega⟩) rfl gX12_deal_12
          · refine lv_bipush (v := (-15)) hx hb gX12_deal_11.2.2.2.2.2.2.2.1 (by decide) ?_
            refine lv_goto (tgt := 224) hx hb gX12_deal_11.2.2.2.2.2.2.2.2.1 (by decide) ?_
            refine toQ hQ0 ?_
            exact RI (v := (-15)) hC hP hD hS [3, 0, 1, 2, 4] (jr16970, 6, nI jno, x6945, x6946, ip16971, gtrc6972) rfl rfl (by decide) (⟨trivial, by omega⟩) rfl gX12_deal_12
    · refine lv_if_ne (tgt := 23) hx hb gX12_deal_0.2.2.2.2.2.2.2.2.1 (by decide) (fun c9 => absurd (by decide) c9) (fun _ => ?_)
      refine lv_iconst (v := (-1)) hx hb gX12_deal_0.2.2.2.2.2.2.2.2.2 (by decide) ?_
      refine lv_goto (tgt := 28) hx hb gX12_deal_1.1 (by decide) ?_
      refine lv_istore (lv' := [(4, .int (-1)), (0, .ref h0), (1, .int x1), (2, .int x2), (3, .int x3)]) hx hb gX12_deal_1.2.2.2.2.1 hl (by decide) rfl (fun ls hl => ?_)
      refine lv_iload hx hb gX12_deal_1.2.2.2.2.2.1 (lv_at0 hl) ?_
      refine lv_if_ge (tgt := 37) hx hb gX12_deal_1.2.2.2.2.2.2.1 (by decide) (fun c9 => absurd c9 (by decide)) (fun _ => ?_)
      refine lv_iconst (v := 0) hx hb gX12_deal_1.2.2.2.2.2.2.2.1 (by decide) ?_
      refine toQ hQ0 ?_
      exact RI (v := 0) hC hP hD hS [0, 1, 2, 3, 4] (0, mdealer, mnumber, mwhose, msize, misParted, fnrc) rfl rfl (by decide) (⟨trivial, by omega⟩) rfl gX12_deal_1.2.2.2.2.2.2.2.2.1
  · refine lv_if_eq (tgt := 19) hx hb gX12_deal_0.2.2.2.2.2.1 (by decide) (fun _ => ?_) (fun c9 => absurd (by decide) c9)
    refine lv_iconst (v := (-1)) hx hb gX12_deal_0.2.2.2.2.2.2.2.2.2 (by decide) ?_
    refine lv_goto (tgt := 28) hx hb gX12_deal_1.1 (by decide) ?_
    refine lv_istore (lv' := [(4, .int (-1)), (0, .ref h0), (1, .int x1), (2, .int x2), (3, .int x3)]) hx hb gX12_deal_1.2.2.2.2.1 hl (by decide) rfl (fun ls hl => ?_)
    refine lv_iload hx hb gX12_deal_1.2.2.2.2.2.1 (lv_at0 hl) ?_
    refine lv_if_ge (tgt := 37) hx hb gX12_deal_1.2.2.2.2.2.2.1 (by decide) (fun c9 => absurd c9 (by decide)) (fun _ => ?_)
    refine lv_iconst (v := 0) hx hb gX12_deal_1.2.2.2.2.2.2.2.1 (by decide) ?_
    refine toQ hQ0 ?_
    exact RI (v := 0) hC hP hD hS [0, 1, 2, 3, 4] (0, mdealer, mnumber, mwhose, msize, misParted, fnrc) rfl rfl (by decide) (⟨trivial, by omega⟩) rfl gX12_deal_1.2.2.2.2.2.2.2.2.1
def K_r_trace (l : Launch) (G : GG) (h0 : Nat) (x1 : Int32) (nw : Nat) (nk : Nat) (mhasKept : Int32) (nt : Nat) (mtaped : Int32) (nr : Nat) (mrowMany : Int32) (mroundOf : Int32) (mroundFrom : Int32) (mouts : Int32) (nm : Nat) (mfromHour : Int32) (mtoHour : Int32) (ns : Nat) (mfrom : Int32) (mto : Int32) (msort : Int32) (misFault : Int32) (mdeep : Int32) (mcoded : Int32) (mlines : Int32) (nl : Nat) (nc : Nat) (nF : Nat) (np : Nat) (ntr : Nat) (nb : Nat) (mbestCost : Int32) (nso : Nat) (nsi : Nat) (nit : Nat) (nsh : Nat) (nsf : Nat) (nss : Nat) (nrc : Nat) (jr : Nat) (mdealer : Int32) (mnumber : Int32) (mwhose : Int32) (msize : Int32) (misParted : Int32) (fnrc : Nat → Int32) : Prop := MP l G yX12_trace cX12_trace 2 (some .int) 2 [.ref h0, .int x1] [(h0, oX12 nw nk mhasKept nt mtaped nr mrowMany mroundOf mroundFrom mouts nm mfromHour mtoHour ns mfrom mto msort misFault mdeep mcoded mlines nl nc nF np ntr nb mbestCost nso nsi nit nsh nsf nss nrc (nI jr) mdealer mnumber mwhose msize misParted), (nrc, iA G 30 fnrc)] (fun r : Int32 => r = ifc (Hs x1 jr) (fnrc x1.toNatClampNeg) (-3))
set_option maxHeartbeats 4000000 in
set_option maxRecDepth 100000 in
theorem r_trace (l : Launch) (G : GG) (h0 : Nat) (x1 : Int32) (nw : Nat) (nk : Nat) (mhasKept : Int32) (nt : Nat) (mtaped : Int32) (nr : Nat) (mrowMany : Int32) (mroundOf : Int32) (mroundFrom : Int32) (mouts : Int32) (nm : Nat) (mfromHour : Int32) (mtoHour : Int32) (ns : Nat) (mfrom : Int32) (mto : Int32) (msort : Int32) (misFault : Int32) (mdeep : Int32) (mcoded : Int32) (mlines : Int32) (nl : Nat) (nc : Nat) (nF : Nat) (np : Nat) (ntr : Nat) (nb : Nat) (mbestCost : Int32) (nso : Nat) (nsi : Nat) (nit : Nat) (nsh : Nat) (nsf : Nat) (nss : Nat) (nrc : Nat) (jr : Nat) (mdealer : Int32) (mnumber : Int32) (mwhose : Int32) (msize : Int32) (misParted : Int32) (fnrc : Nat → Int32) (hjr : jr ≤ 30) : K_r_trace l G h0 x1 nw nk mhasKept nt mtaped nr mrowMany mroundOf mroundFrom mouts nm mfromHour mtoHour ns mfrom mto msort misFault mdeep mcoded mlines nl nc nF np ntr nb mbestCost nso nsi nit nsh nsf nss nrc jr mdealer mnumber mwhose msize misParted fnrc := by
  refine MP.start (by decide +kernel) (Nat.le_of_ble_eq_true rfl) ?_
  intro p e s m below meth c ls hC hK hP hD hl
  refine absQ (fun Q0 hQ0 => ?_)
  have hl : lv_has ls 2 [(0, .ref h0), (1, .int x1)] := hl
  refine Kan8 hC (fun hx hb hr hml hB hown hlocks hnm => ?_)
  refine lv_iload_n hx hb gX12_trace_0.1 rfl (lv_at1 hl) ?_
  refine lv_iconst (v := 0) hx hb gX12_trace_0.2.1 (by decide) ?_
  refine lv_aload_n hx hb gX12_trace_0.2.2.1 rfl (lv_at0 hl) ?_
  refine gf_X12_351 hC rfl hK hP 0 rfl rfl gX12_trace_0.2.2.2.1 ?_
  refine lv_iconst (v := 1) hx hb gX12_trace_0.2.2.2.2.1 (by decide) ?_
  refine lv_isub hx hb gX12_trace_0.2.2.2.2.2.1 ?_
  refine eqi (x1 := (nI jr) - 1) (rfl) ?_
  refine pS hC hK hl (m_within l G x1 0 ((nI jr) - 1)) si_X12_84 rfl rfl (Nat.le_of_ble_eq_true rfl) rm_2_1_3 ⟨by first | exact Nat.le_of_ble_eq_true rfl | exact Nat.zero_le _, by first | exact Nat.le_of_ble_eq_true rfl | exact Nat.zero_le _⟩ gX12_trace_0.2.2.2.2.2.2.1 (Kors (Keqa fun a6976 => ?_) (Keqa fun a6976 => ?_))
  · refine lv_if_eq (tgt := 23) hx hb gX12_trace_0.2.2.2.2.2.2.2.1 (by decide) (fun c9 => absurd c9 (by decide)) (fun _ => ?_)
    obtain ⟨ji, hji, rfl⟩ := Hs_nat (by omega) ((WiHs (by omega)).mp a6976)
    refine lv_aload_n hx hb gX12_trace_0.2.2.2.2.2.2.2.2.1 rfl (lv_at0 hl) ?_
    refine gf_X12_81 hC rfl hK hP 0 rfl rfl gX12_trace_0.2.2.2.2.2.2.2.2.2 ?_
    refine lv_iload_n hx hb gX12_trace_1.1 rfl (lv_at1 hl) ?_
    refine aldN hC hK hP 1 rfl (k := ji) (by omega) (Nat.le_of_ble_eq_true rfl) (v := fnrc ji) rfl gX12_trace_1.2.1 ?_
    refine lv_goto (tgt := 25) hx hb gX12_trace_1.2.2.1 (by decide) ?_
    refine toQ hQ0 ?_
    exact RP (v := fnrc ji) hC ((by simp only [nI_clamp (n := ji) (by omega), ifc_t (q := Hs (nI ji) jr) ((WiHc (by omega)).mp a6976)])) rfl gX12_trace_1.2.2.2.2
  · refine lv_if_eq (tgt := 23) hx hb gX12_trace_0.2.2.2.2.2.2.2.1 (by decide) (fun _ => ?_) (fun c9 => absurd (by decide) c9)
    refine lv_bipush (v := (-3)) hx hb gX12_trace_1.2.2.2.1 (by decide) ?_
    refine toQ hQ0 ?_
    exact RP (v := (-3)) hC ((by simp only [ifc_f (q := Hs x1 jr) (fun h9 => a6976 ((WiHc (by omega)).mpr h9))])) rfl gX12_trace_1.2.2.2.2
def K_r_many (l : Launch) (G : GG) (h0 : Nat) (x1 : Int32) (nw : Nat) (nk : Nat) (mhasKept : Int32) (nt : Nat) (mtaped : Int32) (nr : Nat) (mrowMany : Int32) (mroundOf : Int32) (mroundFrom : Int32) (mouts : Int32) (nm : Nat) (mfromHour : Int32) (mtoHour : Int32) (ns : Nat) (mfrom : Int32) (mto : Int32) (msort : Int32) (misFault : Int32) (mdeep : Int32) (mcoded : Int32) (mlines : Int32) (nl : Nat) (nc : Nat) (nF : Nat) (np : Nat) (ntr : Nat) (nb : Nat) (mbestCost : Int32) (nso : Nat) (nsi : Nat) (nit : Nat) (nsh : Nat) (nsf : Nat) (nss : Nat) (nrc : Nat) (mtraced : Int32) (mdealer : Int32) (mnumber : Int32) (mwhose : Int32) (msize : Int32) (misParted : Int32) (fnw : Nat → Int32) (fnm : Nat → Int32) (fns : Nat → Int32) (fnp : Nat → Int32) : Prop := MI l G yX12_many cX12_many 4 (some .int) 10 0 0 [.ref h0, .int x1] [(h0, oX12 nw nk mhasKept nt mtaped nr mrowMany mroundOf mroundFrom mouts nm mfromHour mtoHour ns mfrom mto msort misFault mdeep mcoded mlines nl nc nF np ntr nb mbestCost nso nsi nit nsh nsf nss nrc mtraced mdealer mnumber mwhose msize misParted), (nw, iA G 1662 fnw), (nm, iA G 36 fnm), (ns, iA G 8 fns), (np, iA G 100 fnp)] (fun (r : Int32) (u : Int32 × Int32 × (Nat → Int32) × (Nat → Int32) × (Nat → Int32)) => (True) ∧ (MB u.2.2.1)) (fun u : Int32 × Int32 × (Nat → Int32) × (Nat → Int32) × (Nat → Int32) => [(h0, oX12 nw nk mhasKept nt mtaped nr mrowMany mroundOf mroundFrom mouts nm u.1 u.2.1 ns mfrom mto msort misFault mdeep mcoded mlines nl nc nF np ntr nb mbestCost nso nsi nit nsh nsf nss nrc mtraced mdealer mnumber mwhose msize misParted), (nw, iA G 1662 fnw), (nm, iA G 36 u.2.2.1), (ns, iA G 8 u.2.2.2.1), (np, iA G 100 u.2.2.2.2)])
set_option maxHeartbeats 4000000 in
set_option maxRecDepth 100000 in
theorem r_many (l : Launch) (G : GG) (h0 : Nat) (x1 : Int32) (nw : Nat) (nk : Nat) (mhasKept : Int32) (nt : Nat) (mtaped : Int32) (nr : Nat) (mrowMany : Int32) (mroundOf : Int32) (mroundFrom : Int32) (mouts : Int32) (nm : Nat) (mfromHour : Int32) (mtoHour : Int32) (ns : Nat) (mfrom : Int32) (mto : Int32) (msort : Int32) (misFault : Int32) (mdeep : Int32) (mcoded : Int32) (mlines : Int32) (nl : Nat) (nc : Nat) (nF : Nat) (np : Nat) (ntr : Nat) (nb : Nat) (mbestCost : Int32) (nso : Nat) (nsi : Nat) (nit : Nat) (nsh : Nat) (nsf : Nat) (nss : Nat) (nrc : Nat) (mtraced : Int32) (mdealer : Int32) (mnumber : Int32) (mwhose : Int32) (msize : Int32) (misParted : Int32) (fnw : Nat → Int32) (fnm : Nat → Int32) (fns : Nat → Int32) (fnp : Nat → Int32) (hN : NI fnw) (hV : VI fnw) (hM : MB fnm) : K_r_many l G h0 x1 nw nk mhasKept nt mtaped nr mrowMany mroundOf mroundFrom mouts nm mfromHour mtoHour ns mfrom mto msort misFault mdeep mcoded mlines nl nc nF np ntr nb mbestCost nso nsi nit nsh nsf nss nrc mtraced mdealer mnumber mwhose msize misParted fnw fnm fns fnp := by
  refine MI.start (by decide +kernel) (Nat.le_of_ble_eq_true rfl) ?_
  intro p e s m below meth c A ls hC hK hP hD hS hA hl
  refine absQ (fun Q0 hQ0 => ?_)
  have hl : lv_has ls 4 [(0, .ref h0), (1, .int x1)] := hl
  refine Kan8 hC (fun hx hb hr hml hB hown hlocks hnm => ?_)
  obtain ⟨k9, hk9, ek9⟩ := NI.nat hN (i := 9) (B := 12) (by decide +kernel) (by decide)
  refine lv_iload_n hx hb gX12_many_0.1 rfl (lv_at1 hl) ?_
  by_cases c_1_6977 : x1 = 0
  · refine lv_tableIn (tgt := 76) hx hb gX12_many_0.2.1 (by rw [c_1_6977]; decide) (by rw [c_1_6977]; decide) (by rw [c_1_6977]; rfl) (by decide) ?_
    refine lv_aload_n hx hb gX12_many_0.2.2.1 rfl (lv_at0 hl) ?_
    refine gf_X12_9 hC rfl hK hP 0 rfl rfl gX12_many_0.2.2.2.1 ?_
    refine lv_iconst (v := 0) hx hb gX12_many_0.2.2.2.2.1 (by decide) ?_
    refine ald hC hK hP 1 rfl (vin (by decide +kernel)) (k := 0) (by decide +kernel) (v := fnw 0) (rfl) gX12_many_0.2.2.2.2.2.1 ?_
    refine toQ hQ0 ?_
    exact RI (v := fnw 0) hC hP hD hS [0, 1, 2, 3, 4] (mfromHour, mtoHour, fnm, fns, fnp) rfl rfl (by decide) (⟨trivial, by first | assumption | exact hM⟩) rfl gX12_many_0.2.2.2.2.2.2.1
  by_cases c_1_6978 : x1 = 1
  · refine lv_tableIn (tgt := 83) hx hb gX12_many_0.2.1 (by rw [c_1_6978]; decide) (by rw [c_1_6978]; decide) (by rw [c_1_6978]; rfl) (by decide) ?_
    refine lv_aload_n hx hb gX12_many_0.2.2.2.2.2.2.2.1 rfl (lv_at0 hl) ?_
    refine gf_X12_9 hC rfl hK hP 0 rfl rfl gX12_many_0.2.2.2.2.2.2.2.2.1 ?_
    refine lv_iconst (v := 4) hx hb gX12_many_0.2.2.2.2.2.2.2.2.2 (by decide) ?_
    refine ald hC hK hP 1 rfl (vin (by decide +kernel)) (k := 4) (by decide +kernel) (v := fnw 4) (rfl) gX12_many_1.1 ?_
    refine toQ hQ0 ?_
    exact RI (v := fnw 4) hC hP hD hS [0, 1, 2, 3, 4] (mfromHour, mtoHour, fnm, fns, fnp) rfl rfl (by decide) (⟨trivial, by first | assumption | exact hM⟩) rfl gX12_many_1.2.1
  by_cases c_1_6979 : x1 = 2
  · refine lv_tableIn (tgt := 90) hx hb gX12_many_0.2.1 (by rw [c_1_6979]; decide) (by rw [c_1_6979]; decide) (by rw [c_1_6979]; rfl) (by decide) ?_
    refine lv_aload_n hx hb gX12_many_1.2.2.1 rfl (lv_at0 hl) ?_
    refine gf_X12_9 hC rfl hK hP 0 rfl rfl gX12_many_1.2.2.2.1 ?_
    refine lv_iconst (v := 5) hx hb gX12_many_1.2.2.2.2.1 (by decide) ?_
    refine ald hC hK hP 1 rfl (vin (by decide +kernel)) (k := 5) (by decide +kernel) (v := fnw 5) (rfl) gX12_many_1.2.2.2.2.2.1 ?_
    refine toQ hQ0 ?_
    exact RI (v := fnw 5) hC hP hD hS [0, 1, 2, 3, 4] (mfromHour, mtoHour, fnm, fns, fnp) rfl rfl (by decide) (⟨trivial, by first | assumption | exact hM⟩) rfl gX12_many_1.2.2.2.2.2.2.1
  by_cases c_1_6980 : x1 = 3
  · refine lv_tableIn (tgt := 97) hx hb gX12_many_0.2.1 (by rw [c_1_6980]; decide) (by rw [c_1_6980]; decide) (by rw [c_1_6980]; rfl) (by decide) ?_
    refine lv_aload_n hx hb gX12_many_1.2.2.2.2.2.2.2.1 rfl (lv_at0 hl) ?_
    refine pV hC hK hl hP hD (m_inView l G h0 nw nk mhasKept nt mtaped nr mrowMany mroundOf mroundFrom mouts nm mfromHour mtoHour ns mfrom mto msort misFault mdeep mcoded mlines nl nc nF np ntr nb mbestCost nso nsi nit nsh nsf nss nrc mtraced mdealer mnumber mwhose msize misParted fnw (hN)) si_X12_107 [0, 1] sm_0_1 fm_0_1 nd_0_1 rfl rfl rfl rfl rfl (Nat.le_of_ble_eq_true rfl) rm_10_3_3 ⟨by first | exact Nat.le_of_ble_eq_true rfl | exact Nat.zero_le _, by first | exact Nat.le_of_ble_eq_true rfl | exact Nat.zero_le _⟩ gX12_many_1.2.2.2.2.2.2.2.2.1 (fun r6981 hr6981 => ?_)
    refine pS hC hK hl (m_bits l G r6981) si_X12_110 rfl rfl (Nat.le_of_ble_eq_true rfl) rm_10_1_3 ⟨by first | exact Nat.le_of_ble_eq_true rfl | exact Nat.zero_le _, by first | exact Nat.le_of_ble_eq_true rfl | exact Nat.zero_le _⟩ gX12_many_1.2.2.2.2.2.2.2.2.2 (fun r6982 hr6982 => ?_)
    refine toQ hQ0 ?_
    exact RI (v := r6982) hC hP hD hS [0, 1, 2, 3, 4] (mfromHour, mtoHour, fnm, fns, fnp) rfl rfl (by decide) (⟨trivial, by first | assumption | exact hM⟩) rfl gX12_many_2.1
  by_cases c_1_6983 : x1 = 4
  · refine lv_tableIn (tgt := 105) hx hb gX12_many_0.2.1 (by rw [c_1_6983]; decide) (by rw [c_1_6983]; decide) (by rw [c_1_6983]; rfl) (by decide) ?_
    refine lv_aload_n hx hb gX12_many_2.2.1 rfl (lv_at0 hl) ?_
    refine gf_X12_9 hC rfl hK hP 0 rfl rfl gX12_many_2.2.2.1 ?_
    refine lv_bipush (v := 6) hx hb gX12_many_2.2.2.2.1 (by decide) ?_
    refine ald hC hK hP 1 rfl (vin (by decide +kernel)) (k := 6) (by decide +kernel) (v := fnw 6) (rfl) gX12_many_2.2.2.2.2.1 ?_
    refine toQ hQ0 ?_
    exact RI (v := fnw 6) hC hP hD hS [0, 1, 2, 3, 4] (mfromHour, mtoHour, fnm, fns, fnp) rfl rfl (by decide) (⟨trivial, by first | assumption | exact hM⟩) rfl gX12_many_2.2.2.2.2.2.1
  by_cases c_1_6984 : x1 = 5
  · refine lv_tableIn (tgt := 113) hx hb gX12_many_0.2.1 (by rw [c_1_6984]; decide) (by rw [c_1_6984]; decide) (by rw [c_1_6984]; rfl) (by decide) ?_
    refine lv_aload_n hx hb gX12_many_2.2.2.2.2.2.2.1 rfl (lv_at0 hl) ?_
    refine gf_X12_9 hC rfl hK hP 0 rfl rfl gX12_many_2.2.2.2.2.2.2.2.1 ?_
    refine lv_bipush (v := 7) hx hb gX12_many_2.2.2.2.2.2.2.2.2.1 (by decide) ?_
    refine ald hC hK hP 1 rfl (vin (by decide +kernel)) (k := 7) (by decide +kernel) (v := fnw 7) (rfl) gX12_many_2.2.2.2.2.2.2.2.2.2 ?_
    refine toQ hQ0 ?_
    exact RI (v := fnw 7) hC hP hD hS [0, 1, 2, 3, 4] (mfromHour, mtoHour, fnm, fns, fnp) rfl rfl (by decide) (⟨trivial, by first | assumption | exact hM⟩) rfl gX12_many_3.1
  by_cases c_1_6985 : x1 = 6
  · refine lv_tableIn (tgt := 121) hx hb gX12_many_0.2.1 (by rw [c_1_6985]; decide) (by rw [c_1_6985]; decide) (by rw [c_1_6985]; rfl) (by decide) ?_
    refine lv_aload_n hx hb gX12_many_3.2.1 rfl (lv_at0 hl) ?_
    refine gf_X12_9 hC rfl hK hP 0 rfl rfl gX12_many_3.2.2.1 ?_
    refine lv_bipush (v := 8) hx hb gX12_many_3.2.2.2.1 (by decide) ?_
    refine ald hC hK hP 1 rfl (vin (by decide +kernel)) (k := 8) (by decide +kernel) (v := fnw 8) (rfl) gX12_many_3.2.2.2.2.1 ?_
    refine toQ hQ0 ?_
    exact RI (v := fnw 8) hC hP hD hS [0, 1, 2, 3, 4] (mfromHour, mtoHour, fnm, fns, fnp) rfl rfl (by decide) (⟨trivial, by first | assumption | exact hM⟩) rfl gX12_many_3.2.2.2.2.2.1
  by_cases c_1_6986 : x1 = 7
  · refine lv_tableIn (tgt := 129) hx hb gX12_many_0.2.1 (by rw [c_1_6986]; decide) (by rw [c_1_6986]; decide) (by rw [c_1_6986]; rfl) (by decide) ?_
    refine lv_aload_n hx hb gX12_many_3.2.2.2.2.2.2.1 rfl (lv_at0 hl) ?_
    refine lv_iconst (v := (-1)) hx hb gX12_many_3.2.2.2.2.2.2.2.1 (by decide) ?_
    refine pV hC hK hl hP hD (m_saidBy l G h0 (-1) nw nk mhasKept nt mtaped nr mrowMany mroundOf mroundFrom mouts nm mfromHour mtoHour ns mfrom mto msort misFault mdeep mcoded mlines nl nc nF np ntr nb mbestCost nso nsi nit nsh nsf nss nrc mtraced mdealer mnumber mwhose msize misParted fnw (hN)) si_X12_127 [0, 1] sm_0_1 fm_0_1 nd_0_1 rfl rfl rfl rfl rfl (Nat.le_of_ble_eq_true rfl) rm_10_5_4 ⟨by first | exact Nat.le_of_ble_eq_true rfl | exact Nat.zero_le _, by first | exact Nat.le_of_ble_eq_true rfl | exact Nat.zero_le _⟩ gX12_many_3.2.2.2.2.2.2.2.2.1 (fun r6987 hr6987 => ?_)
    refine toQ hQ0 ?_
    exact RI (v := r6987) hC hP hD hS [0, 1, 2, 3, 4] (mfromHour, mtoHour, fnm, fns, fnp) rfl rfl (by decide) (⟨trivial, by first | assumption | exact hM⟩) rfl gX12_many_3.2.2.2.2.2.2.2.2.2
  by_cases c_1_6988 : x1 = 8
  · refine lv_tableIn (tgt := 135) hx hb gX12_many_0.2.1 (by rw [c_1_6988]; decide) (by rw [c_1_6988]; decide) (by rw [c_1_6988]; rfl) (by decide) ?_
    refine lv_aload_n hx hb gX12_many_4.1 rfl (lv_at0 hl) ?_
    refine gf_X12_9 hC rfl hK hP 0 rfl rfl gX12_many_4.2.1 ?_
    refine lv_bipush (v := 9) hx hb gX12_many_4.2.2.1 (by decide) ?_
    refine ald hC hK hP 1 rfl (vin (by decide +kernel)) (k := 9) (by decide +kernel) (v := nI k9) (ek9) gX12_many_4.2.2.2.1 ?_
    refine toQ hQ0 ?_
    exact RI (v := nI k9) hC hP hD hS [0, 1, 2, 3, 4] (mfromHour, mtoHour, fnm, fns, fnp) rfl rfl (by decide) (⟨trivial, by first | assumption | exact hM⟩) rfl gX12_many_4.2.2.2.2.1
  by_cases c_1_6989 : x1 = 9
  · refine lv_tableIn (tgt := 143) hx hb gX12_many_0.2.1 (by rw [c_1_6989]; decide) (by rw [c_1_6989]; decide) (by rw [c_1_6989]; rfl) (by decide) ?_
    refine lv_iconst (v := 0) hx hb gX12_many_4.2.2.2.2.2.1 (by decide) ?_
    refine lv_istore_n (lv' := [(2, .int 0), (0, .ref h0), (1, .int x1)]) hx hb gX12_many_4.2.2.2.2.2.2.1 rfl hl (by decide) rfl (fun ls hl => ?_)
    refine lv_iconst (v := 0) hx hb gX12_many_4.2.2.2.2.2.2.2.1 (by decide) ?_
    refine lv_istore_n (lv' := [(3, .int 0), (2, .int 0), (0, .ref h0), (1, .int x1)]) hx hb gX12_many_4.2.2.2.2.2.2.2.2.1 rfl hl (by decide) rfl (fun ls hl => ?_)
    have keyP : ∀ (nP kP : Nat) (nn : Int32) (vfh : Int32) (vth : Int32) (vA : Nat → Int32) (vS : Nat → Int32) (vR : Nat → Int32) (H : Heap) (locs : List Loc) (ls : Array Slot), kP + nP = k9 → (MB vA) → va_PD G A [(h0, oX12 nw nk mhasKept nt mtaped nr mrowMany mroundOf mroundFrom mouts nm vfh vth ns mfrom mto msort misFault mdeep mcoded mlines nl nc nF np ntr nb mbestCost nso nsi nit nsh nsf nss nrc mtraced mdealer mnumber mwhose msize misParted), (nw, iA G 1662 fnw), (nm, iA G 36 vA), (ns, iA G 8 vS), (np, iA G 100 vR)] H → va_S A s.heap H locs → lv_has ls 4 [(3, .int (nI kP)), (2, .int nn), (0, .ref h0), (1, .int x1)] → W p l e (RM 10 0 0) s m ([.ref h0, .int x1] : List Value).toArray below meth c H locs 0 0 Q0 (F0 m 147 ls []) := by
      intro nP
      induction nP with
      | zero =>
        intro kP nn vfh vth vA vS vR H locs ls hkP hvA hPD hS hl
        refine Kan2 hPD (fun hP hD => ?_)
        obtain rfl : k9 = kP := by omega
        have hl : lv_has ls 4 [(3, .int (nI k9)), (2, .int nn), (0, .ref h0), (1, .int x1)] := hl
        refine lv_iload_n hx hb gX12_many_4.2.2.2.2.2.2.2.2.2 rfl (lv_at0 hl) ?_
        refine lv_aload_n hx hb gX12_many_5.1 rfl (lv_at2 hl) ?_
        refine gf_X12_9 hC rfl hK hP 0 rfl rfl gX12_many_5.2.1 ?_
        refine lv_bipush (v := 9) hx hb gX12_many_5.2.2.1 (by decide) ?_
        refine ald hC hK hP 1 rfl (vin (by decide +kernel)) (k := 9) (by decide +kernel) (v := nI k9) (ek9) gX12_many_5.2.2.2.1 ?_
        refine lv_icmp_ge (tgt := 180) hx hb gX12_many_5.2.2.2.2.1 (by decide) (fun _ => ?_) (fun c9 => absurd (Int32.le_refl _) c9)
        refine lv_iload_n hx hb gX12_many_6.2.2.2.2.2.2.2.1 rfl (lv_at1 hl) ?_
        refine toQ hQ0 ?_
        exact RI (v := nn) hC hP hD hS [0, 1, 2, 3, 4] (vfh, vth, vA, vS, vR) rfl rfl (by decide) (⟨trivial, by first | assumption | exact hM⟩) rfl gX12_many_6.2.2.2.2.2.2.2.2.1
      | succ nP ihP =>
        intro kP nn vfh vth vA vS vR H locs ls hkP hvA hPD hS hl
        refine Kan2 hPD (fun hP hD => ?_)
        refine lv_iload_n hx hb gX12_many_4.2.2.2.2.2.2.2.2.2 rfl (lv_at0 hl) ?_
        refine lv_aload_n hx hb gX12_many_5.1 rfl (lv_at2 hl) ?_
        refine gf_X12_9 hC rfl hK hP 0 rfl rfl gX12_many_5.2.1 ?_
        refine lv_bipush (v := 9) hx hb gX12_many_5.2.2.1 (by decide) ?_
        refine ald hC hK hP 1 rfl (vin (by decide +kernel)) (k := 9) (by decide +kernel) (v := nI k9) (ek9) gX12_many_5.2.2.2.1 ?_
        refine lv_icmp_ge (tgt := 180) hx hb gX12_many_5.2.2.2.2.1 (by decide) (fun c9 => absurd c9 (nI_ge (a := kP) (b := k9) (by omega) (by omega))) (fun _ => ?_)
        refine lv_iload_n hx hb gX12_many_5.2.2.2.2.2.1 rfl (lv_at1 hl) ?_
        refine lv_aload_n hx hb gX12_many_5.2.2.2.2.2.2.1 rfl (lv_at2 hl) ?_
        refine lv_iload_n hx hb gX12_many_5.2.2.2.2.2.2.2.1 rfl (lv_at0 hl) ?_
        refine iV (wr := []) hC hK hl hP hD hS hA (m_stands l G h0 kP nw nk mhasKept nt mtaped nr mrowMany mroundOf mroundFrom mouts nm vfh vth ns mfrom mto msort misFault mdeep mcoded mlines nl nc nF np ntr nb mbestCost nso nsi nit nsh nsf nss nrc mtraced mdealer mnumber mwhose msize misParted fnw vA vS vR (by omega) (hN) (hV) (hvA)) si_X12_305 [0, 1, 2, 3, 4] [] sm_0_1_2_3_4 fm_0_1_2_3_4 nd_0_1_2_3_4 rfl rfl (by decide) rfl rfl rfl rfl rfl (Nat.le_of_ble_eq_true rfl) rm_10_9_3 ⟨Nat.le_of_ble_eq_true rfl, Nat.le_of_ble_eq_true rfl⟩ gX12_many_5.2.2.2.2.2.2.2.2.1 (fun r6990 => Ktu5 fun fh16992 th16993 gnm6994 gns6995 gnp6996 => ?_)
        intro H locs hr6990 hP hD hS
        try dsimp only at hr6990
        refine Kpdr (ws := [(h0, oX12 nw nk mhasKept nt mtaped nr mrowMany mroundOf mroundFrom mouts nm fh16992 th16993 ns mfrom mto msort misFault mdeep mcoded mlines nl nc nF np ntr nb mbestCost nso nsi nit nsh nsf nss nrc mtraced mdealer mnumber mwhose msize misParted), (nw, iA G 1662 fnw), (nm, iA G 36 gnm6994), (ns, iA G 8 gns6995), (np, iA G 100 gnp6996)]) hP hD (fun hP hD => ?_)
        obtain ⟨hr6990, w6997⟩ := hr6990
        rcases hr6990 with rfl | rfl
        · refine lv_if_eq (tgt := 171) hx hb gX12_many_5.2.2.2.2.2.2.2.2.2 (by decide) (fun c9 => absurd c9 (by decide)) (fun _ => ?_)
          refine lv_iconst (v := 1) hx hb gX12_many_6.1 (by decide) ?_
          refine lv_goto (tgt := 172) hx hb gX12_many_6.2.1 (by decide) ?_
          refine lv_iadd hx hb gX12_many_6.2.2.2.1 ?_
          refine lv_istore_n (lv' := [(2, .int (nn + 1)), (3, .int (nI kP)), (0, .ref h0), (1, .int x1)]) hx hb gX12_many_6.2.2.2.2.1 rfl hl (by decide) rfl (fun ls hl => ?_)
          refine lv_iinc (v := nI (kP + 1)) (lv' := [(3, .int (nI (kP + 1))), (2, .int (nn + 1)), (0, .ref h0), (1, .int x1)]) hx hb gX12_many_6.2.2.2.2.2.1 hl (k := 1) rfl (nI_1 _) (by decide) rfl (fun ls hl => ?_)
          refine lv_goto (tgt := 147) hx hb gX12_many_6.2.2.2.2.2.2.1 (by decide) ?_
          exact ihP (kP + 1) (nn + 1) fh16992 th16993 gnm6994 gns6995 gnp6996 _ _ _ (by omega) (by first | assumption | exact Or.inl rfl | exact Or.inr rfl) (And.intro hP hD) hS (lv_sub hl [0, 1, 2, 3] rfl)
        · refine lv_if_eq (tgt := 171) hx hb gX12_many_5.2.2.2.2.2.2.2.2.2 (by decide) (fun _ => ?_) (fun c9 => absurd (by decide) c9)
          refine lv_iconst (v := 0) hx hb gX12_many_6.2.2.1 (by decide) ?_
          refine lv_iadd hx hb gX12_many_6.2.2.2.1 ?_
          refine lv_istore_n (lv' := [(2, .int (nn + 0)), (3, .int (nI kP)), (0, .ref h0), (1, .int x1)]) hx hb gX12_many_6.2.2.2.2.1 rfl hl (by decide) rfl (fun ls hl => ?_)
          refine lv_iinc (v := nI (kP + 1)) (lv' := [(3, .int (nI (kP + 1))), (2, .int (nn + 0)), (0, .ref h0), (1, .int x1)]) hx hb gX12_many_6.2.2.2.2.2.1 hl (k := 1) rfl (nI_1 _) (by decide) rfl (fun ls hl => ?_)
          refine lv_goto (tgt := 147) hx hb gX12_many_6.2.2.2.2.2.2.1 (by decide) ?_
          exact ihP (kP + 1) (nn + 0) fh16992 th16993 gnm6994 gns6995 gnp6996 _ _ _ (by omega) (by first | assumption | exact Or.inl rfl | exact Or.inr rfl) (And.intro hP hD) hS (lv_sub hl [0, 1, 2, 3] rfl)
    exact keyP k9 0 0 mfromHour mtoHour fnm fns fnp _ _ _ (by omega) (by first | assumption | exact Or.inl rfl | exact Or.inr rfl) (And.intro hP hD) hS (lv_sub hl [0, 1, 2, 3] rfl)
  by_cases c_1_6999 : x1 = 10
  · refine lv_tableIn (tgt := 182) hx hb gX12_many_0.2.1 (by rw [c_1_6999]; decide) (by rw [c_1_6999]; decide) (by rw [c_1_6999]; rfl) (by decide) ?_
    refine lv_aload_n hx hb gX12_many_6.2.2.2.2.2.2.2.2.2 rfl (lv_at0 hl) ?_
    refine gf_X12_9 hC rfl hK hP 0 rfl rfl gX12_many_7.1 ?_
    refine lv_bipush (v := 10) hx hb gX12_many_7.2.1 (by decide) ?_
    refine ald hC hK hP 1 rfl (vin (by decide +kernel)) (k := 10) (by decide +kernel) (v := fnw 10) (rfl) gX12_many_7.2.2.1 ?_
    refine toQ hQ0 ?_
    exact RI (v := fnw 10) hC hP hD hS [0, 1, 2, 3, 4] (mfromHour, mtoHour, fnm, fns, fnp) rfl rfl (by decide) (⟨trivial, by first | assumption | exact hM⟩) rfl gX12_many_7.2.2.2.1
  by_cases c_1_7000 : x1 = 11
  · refine lv_tableIn (tgt := 190) hx hb gX12_many_0.2.1 (by rw [c_1_7000]; decide) (by rw [c_1_7000]; decide) (by rw [c_1_7000]; rfl) (by decide) ?_
    refine lv_aload_n hx hb gX12_many_7.2.2.2.2.1 rfl (lv_at0 hl) ?_
    refine gf_X12_9 hC rfl hK hP 0 rfl rfl gX12_many_7.2.2.2.2.2.1 ?_
    refine lv_bipush (v := 11) hx hb gX12_many_7.2.2.2.2.2.2.1 (by decide) ?_
    refine ald hC hK hP 1 rfl (vin (by decide +kernel)) (k := 11) (by decide +kernel) (v := fnw 11) (rfl) gX12_many_7.2.2.2.2.2.2.2.1 ?_
    refine toQ hQ0 ?_
    exact RI (v := fnw 11) hC hP hD hS [0, 1, 2, 3, 4] (mfromHour, mtoHour, fnm, fns, fnp) rfl rfl (by decide) (⟨trivial, by first | assumption | exact hM⟩) rfl gX12_many_7.2.2.2.2.2.2.2.2.1
  by_cases c_1_7001 : x1 = 12
  · refine lv_tableIn (tgt := 198) hx hb gX12_many_0.2.1 (by rw [c_1_7001]; decide) (by rw [c_1_7001]; decide) (by rw [c_1_7001]; rfl) (by decide) ?_
    refine lv_aload_n hx hb gX12_many_7.2.2.2.2.2.2.2.2.2 rfl (lv_at0 hl) ?_
    refine gf_X12_327 hC rfl hK hP 0 rfl rfl gX12_many_8.1 ?_
    refine toQ hQ0 ?_
    exact RI (v := mrowMany) hC hP hD hS [0, 1, 2, 3, 4] (mfromHour, mtoHour, fnm, fns, fnp) rfl rfl (by decide) (⟨trivial, by first | assumption | exact hM⟩) rfl gX12_many_8.2.1
  by_cases c_1_7002 : x1 = 13
  · refine lv_tableIn (tgt := 203) hx hb gX12_many_0.2.1 (by rw [c_1_7002]; decide) (by rw [c_1_7002]; decide) (by rw [c_1_7002]; rfl) (by decide) ?_
    refine lv_aload_n hx hb gX12_many_8.2.2.1 rfl (lv_at0 hl) ?_
    refine gf_X12_206 hC rfl hK hP 0 rfl rfl gX12_many_8.2.2.2.1 ?_
    refine toQ hQ0 ?_
    exact RI (v := mtaped) hC hP hD hS [0, 1, 2, 3, 4] (mfromHour, mtoHour, fnm, fns, fnp) rfl rfl (by decide) (⟨trivial, by first | assumption | exact hM⟩) rfl gX12_many_8.2.2.2.2.1
  by_cases c_1_7003 : x1 = 14
  · refine lv_tableIn (tgt := 208) hx hb gX12_many_0.2.1 (by rw [c_1_7003]; decide) (by rw [c_1_7003]; decide) (by rw [c_1_7003]; rfl) (by decide) ?_
    refine lv_aload_n hx hb gX12_many_8.2.2.2.2.2.1 rfl (lv_at0 hl) ?_
    refine gf_X12_351 hC rfl hK hP 0 rfl rfl gX12_many_8.2.2.2.2.2.2.1 ?_
    refine toQ hQ0 ?_
    exact RI (v := mtraced) hC hP hD hS [0, 1, 2, 3, 4] (mfromHour, mtoHour, fnm, fns, fnp) rfl rfl (by decide) (⟨trivial, by first | assumption | exact hM⟩) rfl gX12_many_8.2.2.2.2.2.2.2.1
  refine lv_tableOut (tgt := 213) hx hb gX12_many_0.2.1 (by have q9 := sw_0_14 (x := x1); simp only [c_1_6977, c_1_6978, c_1_6979, c_1_6980, c_1_6983, c_1_6984, c_1_6985, c_1_6986, c_1_6988, c_1_6989, c_1_6999, c_1_7000, c_1_7001, c_1_7002, c_1_7003, not_false_eq_true, true_implies] at q9; exact q9) (by decide) ?_
  refine lv_iconst (v := (-1)) hx hb gX12_many_8.2.2.2.2.2.2.2.2.1 (by decide) ?_
  refine toQ hQ0 ?_
  exact RI (v := (-1)) hC hP hD hS [0, 1, 2, 3, 4] (mfromHour, mtoHour, fnm, fns, fnp) rfl rfl (by decide) (⟨trivial, by first | assumption | exact hM⟩) rfl gX12_many_8.2.2.2.2.2.2.2.2.2
def K_w_keep (l : Launch) (G : GG) (h0 : Nat) (nw : Nat) (nk : Nat) (mhasKept : Int32) (nt : Nat) (mtaped : Int32) (nr : Nat) (mrowMany : Int32) (mroundOf : Int32) (mroundFrom : Int32) (mouts : Int32) (nm : Nat) (mfromHour : Int32) (mtoHour : Int32) (ns : Nat) (mfrom : Int32) (mto : Int32) (msort : Int32) (misFault : Int32) (mdeep : Int32) (mcoded : Int32) (mlines : Int32) (nl : Nat) (nc : Nat) (nF : Nat) (np : Nat) (ntr : Nat) (nb : Nat) (mbestCost : Int32) (nso : Nat) (nsi : Nat) (nit : Nat) (nsh : Nat) (nsf : Nat) (nss : Nat) (nrc : Nat) (mtraced : Int32) (mdealer : Int32) (mnumber : Int32) (mwhose : Int32) (msize : Int32) (misParted : Int32) (fnw : Nat → Int32) (fnk : Nat → Int32) : Prop := MI l G yX12_keep cX12_keep 2 (some .int) 1 0 0 [.ref h0] [(h0, oX12 nw nk mhasKept nt mtaped nr mrowMany mroundOf mroundFrom mouts nm mfromHour mtoHour ns mfrom mto msort misFault mdeep mcoded mlines nl nc nF np ntr nb mbestCost nso nsi nit nsh nsf nss nrc mtraced mdealer mnumber mwhose msize misParted), (nw, iA G 1662 fnw), (nk, iA G 1662 fnk)] (fun (r : Int32) (u : (Nat → Int32)) => (r = 1) ∧ (NI u ∧ VI u ∧ SCX u (fnw 0) (fnw 1) (fnw 2) (fnw 3) (fnw 4) (fnw 5) (fnw 6) (fnw 8) (fnw 9) (fnw 10) (fnw 11) ∧ AG 1662 fnw u)) (fun u : (Nat → Int32) => [(h0, oX12 nw nk 1 nt mtaped nr mrowMany mroundOf mroundFrom mouts nm mfromHour mtoHour ns mfrom mto msort misFault mdeep mcoded mlines nl nc nF np ntr nb mbestCost nso nsi nit nsh nsf nss nrc mtraced mdealer mnumber mwhose msize misParted), (nw, iA G 1662 fnw), (nk, iA G 1662 u)])
set_option maxHeartbeats 4000000 in
set_option maxRecDepth 100000 in
theorem w_keep (l : Launch) (G : GG) (h0 : Nat) (nw : Nat) (nk : Nat) (mhasKept : Int32) (nt : Nat) (mtaped : Int32) (nr : Nat) (mrowMany : Int32) (mroundOf : Int32) (mroundFrom : Int32) (mouts : Int32) (nm : Nat) (mfromHour : Int32) (mtoHour : Int32) (ns : Nat) (mfrom : Int32) (mto : Int32) (msort : Int32) (misFault : Int32) (mdeep : Int32) (mcoded : Int32) (mlines : Int32) (nl : Nat) (nc : Nat) (nF : Nat) (np : Nat) (ntr : Nat) (nb : Nat) (mbestCost : Int32) (nso : Nat) (nsi : Nat) (nit : Nat) (nsh : Nat) (nsf : Nat) (nss : Nat) (nrc : Nat) (mtraced : Int32) (mdealer : Int32) (mnumber : Int32) (mwhose : Int32) (msize : Int32) (misParted : Int32) (fnw : Nat → Int32) (fnk : Nat → Int32) (hN : NI fnw) (hV : VI fnw) : K_w_keep l G h0 nw nk mhasKept nt mtaped nr mrowMany mroundOf mroundFrom mouts nm mfromHour mtoHour ns mfrom mto msort misFault mdeep mcoded mlines nl nc nF np ntr nb mbestCost nso nsi nit nsh nsf nss nrc mtraced mdealer mnumber mwhose msize misParted fnw fnk := by
  refine MI.start (by decide +kernel) (Nat.le_of_ble_eq_true rfl) ?_
  intro p e s m below meth c A ls hC hK hP hD hS hA hl
  refine absQ (fun Q0 hQ0 => ?_)
  have hl : lv_has ls 2 [(0, .ref h0)] := hl
  refine Kan8 hC (fun hx hb hr hml hB hown hlocks hnm => ?_)
  refine lv_iconst (v := 0) hx hb gX12_keep_0.1 (by decide) ?_
  refine lv_istore_n (lv' := [(1, .int 0), (0, .ref h0)]) hx hb gX12_keep_0.2.1 rfl hl (by decide) rfl (fun ls hl => ?_)
  have keyP : ∀ (nP kP : Nat) (vK : Nat → Int32) (H : Heap) (locs : List Loc) (ls : Array Slot), kP + nP = 1662 → (AG kP fnw vK) → va_PD G A [(h0, oX12 nw nk mhasKept nt mtaped nr mrowMany mroundOf mroundFrom mouts nm mfromHour mtoHour ns mfrom mto msort misFault mdeep mcoded mlines nl nc nF np ntr nb mbestCost nso nsi nit nsh nsf nss nrc mtraced mdealer mnumber mwhose msize misParted), (nw, iA G 1662 fnw), (nk, iA G 1662 vK)] H → va_S A s.heap H locs → lv_has ls 2 [(1, .int (nI kP)), (0, .ref h0)] → W p l e (RM 1 0 0) s m ([.ref h0] : List Value).toArray below meth c H locs 0 0 Q0 (F0 m 2 ls []) := by
    intro nP
    induction nP with
    | zero =>
      intro kP vK H locs ls hkP hag hPD hS hl
      refine Kan2 hPD (fun hP hD => ?_)
      obtain rfl : 1662 = kP := by omega
      have hl : lv_has ls 2 [(1, .int 1662), (0, .ref h0)] := hl
      refine lv_iload_n hx hb gX12_keep_0.2.2.1 rfl (lv_at0 hl) ?_
      refine lv_sipush (v := 1662) hx hb gX12_keep_0.2.2.2.1 (by decide) ?_
      refine lv_icmp_ge (tgt := 27) hx hb gX12_keep_0.2.2.2.2.1 (by decide) (fun _ => ?_) (fun c9 => absurd (by decide) c9)
      refine lv_aload_n hx hb gX12_keep_1.2.2.2.2.2.1 rfl (lv_at1 hl) ?_
      refine lv_iconst (v := 1) hx hb gX12_keep_1.2.2.2.2.2.2.1 (by decide) ?_
      refine pf_X12_383 hC rfl hK hP hD hS 0 (ws' := [(h0, oX12 nw nk 1 nt mtaped nr mrowMany mroundOf mroundFrom mouts nm mfromHour mtoHour ns mfrom mto msort misFault mdeep mcoded mlines nl nc nF np ntr nb mbestCost nso nsi nit nsh nsf nss nrc mtraced mdealer mnumber mwhose msize misParted), (nw, iA G 1662 fnw), (nk, iA G 1662 vK)]) rfl (Nat.le_of_ble_eq_true rfl) rfl (by decide +kernel) (by decide +kernel) gX12_keep_1.2.2.2.2.2.2.2.1 (fun H locs hP hD hS => ?_)
      refine lv_iconst (v := 1) hx hb gX12_keep_1.2.2.2.2.2.2.2.2.1 (by decide) ?_
      refine toQ hQ0 ?_
      exact RI (v := 1) hC hP hD hS [0, 1, 2] vK rfl rfl (by decide) (⟨rfl, ⟨AG.NI hag hN, AG.VI hag hV, AG.SC hag, hag⟩⟩) rfl gX12_keep_1.2.2.2.2.2.2.2.2.2
    | succ nP ihP =>
      intro kP vK H locs ls hkP hag hPD hS hl
      refine Kan2 hPD (fun hP hD => ?_)
      refine lv_iload_n hx hb gX12_keep_0.2.2.1 rfl (lv_at0 hl) ?_
      refine lv_sipush (v := 1662) hx hb gX12_keep_0.2.2.2.1 (by decide) ?_
      refine lv_icmp_ge (tgt := 27) hx hb gX12_keep_0.2.2.2.2.1 (by decide) (fun c9 => absurd c9 (nI_ge (a := kP) (b := 1662) (by omega) (by omega))) (fun _ => ?_)
      refine lv_aload_n hx hb gX12_keep_0.2.2.2.2.2.1 rfl (lv_at1 hl) ?_
      refine gf_X12_13 hC rfl hK hP 0 rfl rfl gX12_keep_0.2.2.2.2.2.2.1 ?_
      refine lv_iload_n hx hb gX12_keep_0.2.2.2.2.2.2.2.1 rfl (lv_at0 hl) ?_
      refine lv_aload_n hx hb gX12_keep_0.2.2.2.2.2.2.2.2.1 rfl (lv_at1 hl) ?_
      refine gf_X12_9 hC rfl hK hP 0 rfl rfl gX12_keep_0.2.2.2.2.2.2.2.2.2 ?_
      refine lv_iload_n hx hb gX12_keep_1.1 rfl (lv_at0 hl) ?_
      refine aldN hC hK hP 1 rfl (k := kP) (by omega) (Nat.le_of_ble_eq_true rfl) (v := fnw kP) rfl gX12_keep_1.2.1 ?_
      refine lv_topi (fun x7004 ex7004 => ?_)
      refine astN hC hK hP hD hS 2 (ws' := [(h0, oX12 nw nk mhasKept nt mtaped nr mrowMany mroundOf mroundFrom mouts nm mfromHour mtoHour ns mfrom mto msort misFault mdeep mcoded mlines nl nc nF np ntr nb mbestCost nso nsi nit nsh nsf nss nrc mtraced mdealer mnumber mwhose msize misParted), (nw, iA G 1662 fnw), (nk, iA G 1662 (upd vK kP x7004))]) rfl (k := kP) (by omega) (Nat.le_of_ble_eq_true rfl) (rfl) gX12_keep_1.2.2.1 (fun H locs hP hD hS => ?_)
      refine lv_iinc (v := nI (kP + 1)) (lv' := [(1, .int (nI (kP + 1))), (0, .ref h0)]) hx hb gX12_keep_1.2.2.2.1 hl (k := 0) rfl (nI_1 _) (by decide) rfl (fun ls hl => ?_)
      refine lv_goto (tgt := 2) hx hb gX12_keep_1.2.2.2.2.1 (by decide) ?_
      exact ihP (kP + 1) (upd vK kP x7004) _ _ _ (by omega) (by first | assumption | exact Or.inl rfl | exact Or.inr rfl | exact AG.zero | exact AG.next (by assumption) (by assumption)) (And.intro hP hD) hS (lv_sub hl [0, 1] rfl)
  exact keyP 1662 0 fnk _ _ _ (by omega) (by first | assumption | exact Or.inl rfl | exact Or.inr rfl | exact AG.zero | exact AG.next (by assumption) (by assumption)) (And.intro hP hD) hS (lv_sub hl [0, 1] rfl)
def K_w_again0 (l : Launch) (G : GG) (h0 : Nat) (nw : Nat) (nk : Nat) (nt : Nat) (mtaped : Int32) (nr : Nat) (mrowMany : Int32) (mroundOf : Int32) (mroundFrom : Int32) (mouts : Int32) (nm : Nat) (mfromHour : Int32) (mtoHour : Int32) (ns : Nat) (mfrom : Int32) (mto : Int32) (msort : Int32) (misFault : Int32) (mdeep : Int32) (mcoded : Int32) (mlines : Int32) (nl : Nat) (nc : Nat) (nF : Nat) (np : Nat) (ntr : Nat) (nb : Nat) (mbestCost : Int32) (nso : Nat) (nsi : Nat) (nit : Nat) (nsh : Nat) (nsf : Nat) (nss : Nat) (nrc : Nat) (mtraced : Int32) (mdealer : Int32) (mnumber : Int32) (mwhose : Int32) (msize : Int32) (misParted : Int32) : Prop := MP l G yX12_again cX12_again 2 (some .int) 1 [.ref h0] [(h0, oX12 nw nk 0 nt mtaped nr mrowMany mroundOf mroundFrom mouts nm mfromHour mtoHour ns mfrom mto msort misFault mdeep mcoded mlines nl nc nF np ntr nb mbestCost nso nsi nit nsh nsf nss nrc mtraced mdealer mnumber mwhose msize misParted)] (fun r : Int32 => r = (-3))
set_option maxHeartbeats 4000000 in
set_option maxRecDepth 100000 in
theorem w_again0 (l : Launch) (G : GG) (h0 : Nat) (nw : Nat) (nk : Nat) (nt : Nat) (mtaped : Int32) (nr : Nat) (mrowMany : Int32) (mroundOf : Int32) (mroundFrom : Int32) (mouts : Int32) (nm : Nat) (mfromHour : Int32) (mtoHour : Int32) (ns : Nat) (mfrom : Int32) (mto : Int32) (msort : Int32) (misFault : Int32) (mdeep : Int32) (mcoded : Int32) (mlines : Int32) (nl : Nat) (nc : Nat) (nF : Nat) (np : Nat) (ntr : Nat) (nb : Nat) (mbestCost : Int32) (nso : Nat) (nsi : Nat) (nit : Nat) (nsh : Nat) (nsf : Nat) (nss : Nat) (nrc : Nat) (mtraced : Int32) (mdealer : Int32) (mnumber : Int32) (mwhose : Int32) (msize : Int32) (misParted : Int32) : K_w_again0 l G h0 nw nk nt mtaped nr mrowMany mroundOf mroundFrom mouts nm mfromHour mtoHour ns mfrom mto msort misFault mdeep mcoded mlines nl nc nF np ntr nb mbestCost nso nsi nit nsh nsf nss nrc mtraced mdealer mnumber mwhose msize misParted := by
  refine MP.start (by decide +kernel) (Nat.le_of_ble_eq_true rfl) ?_
  intro p e s m below meth c ls hC hK hP hD hl
  refine absQ (fun Q0 hQ0 => ?_)
  have hl : lv_has ls 2 [(0, .ref h0)] := hl
  refine Kan8 hC (fun hx hb hr hml hB hown hlocks hnm => ?_)
  refine lv_aload_n hx hb gX12_again_0.1 rfl (lv_at0 hl) ?_
  refine gf_X12_383 hC rfl hK hP 0 rfl rfl gX12_again_0.2.1 ?_
  refine lv_if_ne (tgt := 10) hx hb gX12_again_0.2.2.1 (by decide) (fun c9 => absurd (by decide) c9) (fun _ => ?_)
  refine lv_bipush (v := (-3)) hx hb gX12_again_0.2.2.2.1 (by decide) ?_
  refine toQ hQ0 ?_
  exact RP (v := (-3)) hC (rfl) rfl gX12_again_0.2.2.2.2.1
def K_w_again1 (l : Launch) (G : GG) (h0 : Nat) (nw : Nat) (nk : Nat) (nt : Nat) (mtaped : Int32) (nr : Nat) (mrowMany : Int32) (mroundOf : Int32) (mroundFrom : Int32) (mouts : Int32) (nm : Nat) (mfromHour : Int32) (mtoHour : Int32) (ns : Nat) (mfrom : Int32) (mto : Int32) (msort : Int32) (misFault : Int32) (mdeep : Int32) (mcoded : Int32) (mlines : Int32) (nl : Nat) (nc : Nat) (nF : Nat) (np : Nat) (ntr : Nat) (nb : Nat) (mbestCost : Int32) (nso : Nat) (nsi : Nat) (nit : Nat) (nsh : Nat) (nsf : Nat) (nss : Nat) (nrc : Nat) (mtraced : Int32) (mdealer : Int32) (mnumber : Int32) (mwhose : Int32) (msize : Int32) (misParted : Int32) (fnw : Nat → Int32) (fnk : Nat → Int32) : Prop := MI l G yX12_again cX12_again 2 (some .int) 1 0 0 [.ref h0] [(h0, oX12 nw nk 1 nt mtaped nr mrowMany mroundOf mroundFrom mouts nm mfromHour mtoHour ns mfrom mto msort misFault mdeep mcoded mlines nl nc nF np ntr nb mbestCost nso nsi nit nsh nsf nss nrc mtraced mdealer mnumber mwhose msize misParted), (nw, iA G 1662 fnw), (nk, iA G 1662 fnk)] (fun (r : Int32) (u : (Nat → Int32)) => (r = 1) ∧ (NI u ∧ VI u ∧ SCX u (fnk 0) (fnk 1) (fnk 2) (fnk 3) (fnk 4) (fnk 5) (fnk 6) (fnk 8) (fnk 9) (fnk 10) (fnk 11) ∧ AG 1662 fnk u)) (fun u : (Nat → Int32) => [(h0, oX12 nw nk 1 nt mtaped nr mrowMany mroundOf mroundFrom mouts nm mfromHour mtoHour ns mfrom mto msort misFault mdeep mcoded mlines nl nc nF np ntr nb mbestCost nso nsi nit nsh nsf nss nrc mtraced mdealer mnumber mwhose msize misParted), (nw, iA G 1662 u), (nk, iA G 1662 fnk)])
set_option maxHeartbeats 4000000 in
set_option maxRecDepth 100000 in
theorem w_again1 (l : Launch) (G : GG) (h0 : Nat) (nw : Nat) (nk : Nat) (nt : Nat) (mtaped : Int32) (nr : Nat) (mrowMany : Int32) (mroundOf : Int32) (mroundFrom : Int32) (mouts : Int32) (nm : Nat) (mfromHour : Int32) (mtoHour : Int32) (ns : Nat) (mfrom : Int32) (mto : Int32) (msort : Int32) (misFault : Int32) (mdeep : Int32) (mcoded : Int32) (mlines : Int32) (nl : Nat) (nc : Nat) (nF : Nat) (np : Nat) (ntr : Nat) (nb : Nat) (mbestCost : Int32) (nso : Nat) (nsi : Nat) (nit : Nat) (nsh : Nat) (nsf : Nat) (nss : Nat) (nrc : Nat) (mtraced : Int32) (mdealer : Int32) (mnumber : Int32) (mwhose : Int32) (msize : Int32) (misParted : Int32) (fnw : Nat → Int32) (fnk : Nat → Int32) (hN : NI fnw) (hV : VI fnw) (hNk : NI fnk) (hVk : VI fnk) : K_w_again1 l G h0 nw nk nt mtaped nr mrowMany mroundOf mroundFrom mouts nm mfromHour mtoHour ns mfrom mto msort misFault mdeep mcoded mlines nl nc nF np ntr nb mbestCost nso nsi nit nsh nsf nss nrc mtraced mdealer mnumber mwhose msize misParted fnw fnk := by
  refine MI.start (by decide +kernel) (Nat.le_of_ble_eq_true rfl) ?_
  intro p e s m below meth c A ls hC hK hP hD hS hA hl
  refine absQ (fun Q0 hQ0 => ?_)
  have hl : lv_has ls 2 [(0, .ref h0)] := hl
  refine Kan8 hC (fun hx hb hr hml hB hown hlocks hnm => ?_)
  refine lv_aload_n hx hb gX12_again_0.1 rfl (lv_at0 hl) ?_
  refine gf_X12_383 hC rfl hK hP 0 rfl rfl gX12_again_0.2.1 ?_
  refine lv_if_ne (tgt := 10) hx hb gX12_again_0.2.2.1 (by decide) (fun _ => ?_) (fun c9 => absurd c9 (by decide))
  refine lv_iconst (v := 0) hx hb gX12_again_0.2.2.2.2.2.1 (by decide) ?_
  refine lv_istore_n (lv' := [(1, .int 0), (0, .ref h0)]) hx hb gX12_again_0.2.2.2.2.2.2.1 rfl hl (by decide) rfl (fun ls hl => ?_)
  have keyP : ∀ (nP kP : Nat) (vK : Nat → Int32) (H : Heap) (locs : List Loc) (ls : Array Slot), kP + nP = 1662 → (AG kP fnk vK) → va_PD G A [(h0, oX12 nw nk 1 nt mtaped nr mrowMany mroundOf mroundFrom mouts nm mfromHour mtoHour ns mfrom mto msort misFault mdeep mcoded mlines nl nc nF np ntr nb mbestCost nso nsi nit nsh nsf nss nrc mtraced mdealer mnumber mwhose msize misParted), (nw, iA G 1662 vK), (nk, iA G 1662 fnk)] H → va_S A s.heap H locs → lv_has ls 2 [(1, .int (nI kP)), (0, .ref h0)] → W p l e (RM 1 0 0) s m ([.ref h0] : List Value).toArray below meth c H locs 0 0 Q0 (F0 m 12 ls []) := by
    intro nP
    induction nP with
    | zero =>
      intro kP vK H locs ls hkP hag hPD hS hl
      refine Kan2 hPD (fun hP hD => ?_)
      obtain rfl : 1662 = kP := by omega
      have hl : lv_has ls 2 [(1, .int 1662), (0, .ref h0)] := hl
      refine lv_iload_n hx hb gX12_again_0.2.2.2.2.2.2.2.1 rfl (lv_at0 hl) ?_
      refine lv_sipush (v := 1662) hx hb gX12_again_0.2.2.2.2.2.2.2.2.1 (by decide) ?_
      refine lv_icmp_ge (tgt := 37) hx hb gX12_again_0.2.2.2.2.2.2.2.2.2 (by decide) (fun _ => ?_) (fun c9 => absurd (by decide) c9)
      refine lv_iconst (v := 1) hx hb gX12_again_2.1 (by decide) ?_
      refine toQ hQ0 ?_
      exact RI (v := 1) hC hP hD hS [0, 1, 2] vK rfl rfl (by decide) (⟨rfl, ⟨AG.NI hag hNk, AG.VI hag hVk, AG.SC hag, hag⟩⟩) rfl gX12_again_2.2
    | succ nP ihP =>
      intro kP vK H locs ls hkP hag hPD hS hl
      refine Kan2 hPD (fun hP hD => ?_)
      refine lv_iload_n hx hb gX12_again_0.2.2.2.2.2.2.2.1 rfl (lv_at0 hl) ?_
      refine lv_sipush (v := 1662) hx hb gX12_again_0.2.2.2.2.2.2.2.2.1 (by decide) ?_
      refine lv_icmp_ge (tgt := 37) hx hb gX12_again_0.2.2.2.2.2.2.2.2.2 (by decide) (fun c9 => absurd c9 (nI_ge (a := kP) (b := 1662) (by omega) (by omega))) (fun _ => ?_)
      refine lv_aload_n hx hb gX12_again_1.1 rfl (lv_at1 hl) ?_
      refine gf_X12_9 hC rfl hK hP 0 rfl rfl gX12_again_1.2.1 ?_
      refine lv_iload_n hx hb gX12_again_1.2.2.1 rfl (lv_at0 hl) ?_
      refine lv_aload_n hx hb gX12_again_1.2.2.2.1 rfl (lv_at1 hl) ?_
      refine gf_X12_13 hC rfl hK hP 0 rfl rfl gX12_again_1.2.2.2.2.1 ?_
      refine lv_iload_n hx hb gX12_again_1.2.2.2.2.2.1 rfl (lv_at0 hl) ?_
      refine aldN hC hK hP 2 rfl (k := kP) (by omega) (Nat.le_of_ble_eq_true rfl) (v := fnk kP) rfl gX12_again_1.2.2.2.2.2.2.1 ?_
      refine lv_topi (fun x7005 ex7005 => ?_)
      refine astN hC hK hP hD hS 1 (ws' := [(h0, oX12 nw nk 1 nt mtaped nr mrowMany mroundOf mroundFrom mouts nm mfromHour mtoHour ns mfrom mto msort misFault mdeep mcoded mlines nl nc nF np ntr nb mbestCost nso nsi nit nsh nsf nss nrc mtraced mdealer mnumber mwhose msize misParted), (nw, iA G 1662 (upd vK kP x7005)), (nk, iA G 1662 fnk)]) rfl (k := kP) (by omega) (Nat.le_of_ble_eq_true rfl) (rfl) gX12_again_1.2.2.2.2.2.2.2.1 (fun H locs hP hD hS => ?_)
      refine lv_iinc (v := nI (kP + 1)) (lv' := [(1, .int (nI (kP + 1))), (0, .ref h0)]) hx hb gX12_again_1.2.2.2.2.2.2.2.2.1 hl (k := 0) rfl (nI_1 _) (by decide) rfl (fun ls hl => ?_)
      refine lv_goto (tgt := 12) hx hb gX12_again_1.2.2.2.2.2.2.2.2.2 (by decide) ?_
      exact ihP (kP + 1) (upd vK kP x7005) _ _ _ (by omega) (by first | assumption | exact Or.inl rfl | exact Or.inr rfl | exact AG.zero | exact AG.next (by assumption) (by assumption)) (And.intro hP hD) hS (lv_sub hl [0, 1] rfl)
  exact keyP 1662 0 fnw _ _ _ (by omega) (by first | assumption | exact Or.inl rfl | exact Or.inr rfl | exact AG.zero | exact AG.next (by assumption) (by assumption)) (And.intro hP hD) hS (lv_sub hl [0, 1] rfl)
