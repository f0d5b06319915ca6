section WR
variable {p : Program} {l : Launch} {e : Env} {R : Room} {s : State} {m : MethodId} {args : Array Value} {below : List Frame} {meth : Method} {c : Code} {H : Heap} {locs : List Loc} {cells slots : Nat} {Q : State → Prop}
variable {pc : Nat} {ls : Array Slot} {rest : List Value} {G : GG} {ws : va_W} {A : Nat → Prop} {y0 : MethodName} {b0 : ByteArray} {mL0 : Nat} {rt0 : Option FieldType} {a : Nat} {H0 : Heap}
end WR
/-- what a kind tells of its shelf -/
def KO1 (x : Int32) (y : Int32) (k : Nat) (B : Nat) : Prop := x = nI k ∧ ∃ j, j < B ∧ y = nI j
theorem KO1.mk {x x2 y y2 : Int32} {k B kk : Nat} (hB : kk ≤ B) (hk : kk < 2 ^ 31) (ex : x2 = x) (ey : y2 = y) (c : x2 = nI k) (h : Hs y2 kk) : KO1 x y k B := by
  obtain ⟨j, hj, e⟩ := Hs_nat hk h
  exact ⟨ex.symm.trans c, j, by omega, ey.symm.trans e⟩
/-- the first n alike -/
def AG (n : Nat) (f g : Nat → Int32) : Prop := ∀ i, i < n → g i = f i
theorem AG.zero {f g : Nat → Int32} : AG 0 f g := fun i h => absurd h (Nat.not_lt_zero i)
theorem AG.next {n : Nat} {f g : Nat → Int32} {x : Int32} (h : AG n f g) (hx : x = f n) : AG (n + 1) f (upd g n x) := by
  intro i hi
  unfold upd
  by_cases c : i = n
  · rw [if_pos c, hx, c]
  · rw [if_neg c]; exact h i (by omega)
theorem AG.SC {f g : Nat → Int32} (h : AG 1662 f g) : SCX g (f 0) (f 1) (f 2) (f 3) (f 4) (f 5) (f 6) (f 8) (f 9) (f 10) (f 11) := SCX.rf.ag fun i h1 _ => h i (by omega)
theorem AG.NI {f g : Nat → Int32} (h : AG 1662 f g) (hN : NI f) : NI g := by
  intro i
  by_cases c : i < 1662
  · rw [h i c]; exact hN i
  · rw [bnd_end (by omega)]
    exact ⟨ti_lo _, ti_hi _⟩
theorem AG.VI {f g : Nat → Int32} (h : AG 1662 f g) (hV : VI f) : VI g := by
  intro v hv
  exact VOK.ext (fun j hj => (h _ (by omega)).symm) (hV v hv)
section WR
variable {p : Program} {l : Launch} {e : Env} {R : Room} {s : State} {m : MethodId} {args : Array Value} {below : List Frame} {meth : Method} {c : Code} {H : Heap} {locs : List Loc} {cells slots : Nat} {Q : State → Prop}
variable {pc : Nat} {ls : Array Slot} {rest : List Value} {G : GG} {ws : va_W} {A : Nat → Prop} {y0 : MethodName} {b0 : ByteArray} {mL0 : Nat} {rt0 : Option FieldType} {a : Nat} {H0 : Heap}
theorem dX12_kindOn_0 : decode cX12_kindOn 0 = .ok (.aload_n 0, 1) := by decide +kernel
theorem dX12_kindOn_1 : decode cX12_kindOn 1 = .ok (.getfield 75, 3) := by decide +kernel
theorem dX12_kindOn_4 : decode cX12_kindOn 4 = .ok (.iload_n 1, 1) := by decide +kernel
theorem dX12_kindOn_5 : decode cX12_kindOn 5 = .ok (.iaload, 1) := by decide +kernel
theorem dX12_kindOn_6 : decode cX12_kindOn 6 = .ok (.istore_n 2, 1) := by decide +kernel
theorem dX12_kindOn_7 : decode cX12_kindOn 7 = .ok (.aload_n 0, 1) := by decide +kernel
theorem dX12_kindOn_8 : decode cX12_kindOn 8 = .ok (.getfield 72, 3) := by decide +kernel
theorem dX12_kindOn_11 : decode cX12_kindOn 11 = .ok (.iload_n 1, 1) := by decide +kernel
theorem dX12_kindOn_12 : decode cX12_kindOn 12 = .ok (.iaload, 1) := by decide +kernel
theorem dX12_kindOn_13 : decode cX12_kindOn 13 = .ok (.tableswitch 145 1 3 #[27, 98, 128], 27) := by decide +kernel
theorem dX12_kindOn_40 : decode cX12_kindOn 40 = .ok (.aload_n 0, 1) := by decide +kernel
theorem dX12_kindOn_41 : decode cX12_kindOn 41 = .ok (.iload_n 2, 1) := by decide +kernel
theorem dX12_kindOn_42 : decode cX12_kindOn 42 = .ok (.iconst 5, 1) := by decide +kernel
theorem dX12_kindOn_43 : decode cX12_kindOn 43 = .ok (.invokevirtual 120, 3) := by decide +kernel
theorem dX12_kindOn_46 : decode cX12_kindOn 46 = .ok (.ifCond .eq 27, 3) := by decide +kernel
theorem dX12_kindOn_49 : decode cX12_kindOn 49 = .ok (.aload_n 0, 1) := by decide +kernel
theorem dX12_kindOn_50 : decode cX12_kindOn 50 = .ok (.iload_n 2, 1) := by decide +kernel
theorem dX12_kindOn_51 : decode cX12_kindOn 51 = .ok (.iconst 1, 1) := by decide +kernel
theorem dX12_kindOn_52 : decode cX12_kindOn 52 = .ok (.invokevirtual 88, 3) := by decide +kernel
theorem dX12_kindOn_55 : decode cX12_kindOn 55 = .ok (.iconst 1, 1) := by decide +kernel
theorem dX12_kindOn_56 : decode cX12_kindOn 56 = .ok (.aload_n 0, 1) := by decide +kernel
theorem dX12_kindOn_57 : decode cX12_kindOn 57 = .ok (.iload_n 2, 1) := by decide +kernel
theorem dX12_kindOn_58 : decode cX12_kindOn 58 = .ok (.iconst 0, 1) := by decide +kernel
theorem dX12_kindOn_59 : decode cX12_kindOn 59 = .ok (.invokevirtual 88, 3) := by decide +kernel
theorem dX12_kindOn_62 : decode cX12_kindOn 62 = .ok (.ishl, 1) := by decide +kernel
theorem dX12_kindOn_63 : decode cX12_kindOn 63 = .ok (.iconst (-1), 1) := by decide +kernel
theorem dX12_kindOn_64 : decode cX12_kindOn 64 = .ok (.ixor, 1) := by decide +kernel
theorem dX12_kindOn_65 : decode cX12_kindOn 65 = .ok (.iand, 1) := by decide +kernel
theorem dX12_kindOn_66 : decode cX12_kindOn 66 = .ok (.ifCond .eq 7, 3) := by decide +kernel
theorem dX12_kindOn_73 : decode cX12_kindOn 73 = .ok (.iconst 0, 1) := by decide +kernel
theorem dX12_kindOn_74 : decode cX12_kindOn 74 = .ok (.istore_n 3, 1) := by decide +kernel
theorem dX12_kindOn_75 : decode cX12_kindOn 75 = .ok (.aload_n 0, 1) := by decide +kernel
theorem dX12_kindOn_76 : decode cX12_kindOn 76 = .ok (.iload_n 2, 1) := by decide +kernel
theorem dX12_kindOn_77 : decode cX12_kindOn 77 = .ok (.iconst 5, 1) := by decide +kernel
theorem dX12_kindOn_78 : decode cX12_kindOn 78 = .ok (.invokevirtual 120, 3) := by decide +kernel
theorem dX12_kindOn_81 : decode cX12_kindOn 81 = .ok (.ifCond .ne 7, 3) := by decide +kernel
theorem dX12_kindOn_88 : decode cX12_kindOn 88 = .ok (.iload_n 3, 1) := by decide +kernel
theorem dX12_kindOn_89 : decode cX12_kindOn 89 = .ok (.ifCond .ne 7, 3) := by decide +kernel
theorem dX12_kindOn_92 : decode cX12_kindOn 92 = .ok (.iconst 2, 1) := by decide +kernel
theorem dX12_kindOn_93 : decode cX12_kindOn 93 = .ok (.goto 17, 3) := by decide +kernel
theorem dX12_kindOn_110 : decode cX12_kindOn 110 = .ok (.ireturn, 1) := by decide +kernel
theorem dX12_kindOn_69 : decode cX12_kindOn 69 = .ok (.iconst 1, 1) := by decide +kernel
theorem dX12_kindOn_70 : decode cX12_kindOn 70 = .ok (.goto 4, 3) := by decide +kernel
theorem dX12_kindOn_96 : decode cX12_kindOn 96 = .ok (.aload_n 0, 1) := by decide +kernel
theorem dX12_kindOn_97 : decode cX12_kindOn 97 = .ok (.iload_n 2, 1) := by decide +kernel
theorem dX12_kindOn_98 : decode cX12_kindOn 98 = .ok (.iconst 3, 1) := by decide +kernel
theorem dX12_kindOn_99 : decode cX12_kindOn 99 = .ok (.invokevirtual 88, 3) := by decide +kernel
theorem dX12_kindOn_102 : decode cX12_kindOn 102 = .ok (.ifCond .le 7, 3) := by decide +kernel
theorem dX12_kindOn_109 : decode cX12_kindOn 109 = .ok (.iconst 1, 1) := by decide +kernel
theorem dX12_kindOn_105 : decode cX12_kindOn 105 = .ok (.iconst 3, 1) := by decide +kernel
theorem dX12_kindOn_106 : decode cX12_kindOn 106 = .ok (.goto 4, 3) := by decide +kernel
theorem dX12_kindOn_84 : decode cX12_kindOn 84 = .ok (.iconst (-1), 1) := by decide +kernel
theorem dX12_kindOn_85 : decode cX12_kindOn 85 = .ok (.goto 25, 3) := by decide +kernel
theorem dX12_kindOn_111 : decode cX12_kindOn 111 = .ok (.aload_n 0, 1) := by decide +kernel
theorem dX12_kindOn_112 : decode cX12_kindOn 112 = .ok (.iload_n 2, 1) := by decide +kernel
theorem dX12_kindOn_113 : decode cX12_kindOn 113 = .ok (.bipush 8, 2) := by decide +kernel
theorem dX12_kindOn_115 : decode cX12_kindOn 115 = .ok (.invokevirtual 120, 3) := by decide +kernel
theorem dX12_kindOn_118 : decode cX12_kindOn 118 = .ok (.ifCond .ne 7, 3) := by decide +kernel
theorem dX12_kindOn_125 : decode cX12_kindOn 125 = .ok (.aload_n 0, 1) := by decide +kernel
theorem dX12_kindOn_126 : decode cX12_kindOn 126 = .ok (.iload_n 2, 1) := by decide +kernel
theorem dX12_kindOn_127 : decode cX12_kindOn 127 = .ok (.bipush 6, 2) := by decide +kernel
theorem dX12_kindOn_129 : decode cX12_kindOn 129 = .ok (.invokevirtual 114, 3) := by decide +kernel
theorem dX12_kindOn_132 : decode cX12_kindOn 132 = .ok (.ifCond .ge 7, 3) := by decide +kernel
theorem dX12_kindOn_139 : decode cX12_kindOn 139 = .ok (.iconst 4, 1) := by decide +kernel
theorem dX12_kindOn_140 : decode cX12_kindOn 140 = .ok (.ireturn, 1) := by decide +kernel
theorem dX12_kindOn_135 : decode cX12_kindOn 135 = .ok (.iconst 5, 1) := by decide +kernel
theorem dX12_kindOn_136 : decode cX12_kindOn 136 = .ok (.goto 4, 3) := by decide +kernel
theorem dX12_kindOn_121 : decode cX12_kindOn 121 = .ok (.iconst (-1), 1) := by decide +kernel
theorem dX12_kindOn_122 : decode cX12_kindOn 122 = .ok (.goto 18, 3) := by decide +kernel
theorem dX12_kindOn_141 : decode cX12_kindOn 141 = .ok (.aload_n 0, 1) := by decide +kernel
theorem dX12_kindOn_142 : decode cX12_kindOn 142 = .ok (.iload_n 2, 1) := by decide +kernel
theorem dX12_kindOn_143 : decode cX12_kindOn 143 = .ok (.bipush 9, 2) := by decide +kernel
theorem dX12_kindOn_145 : decode cX12_kindOn 145 = .ok (.invokevirtual 120, 3) := by decide +kernel
theorem dX12_kindOn_148 : decode cX12_kindOn 148 = .ok (.ifCond .eq 8, 3) := by decide +kernel
theorem dX12_kindOn_151 : decode cX12_kindOn 151 = .ok (.bipush 6, 2) := by decide +kernel
theorem dX12_kindOn_153 : decode cX12_kindOn 153 = .ok (.goto 4, 3) := by decide +kernel
theorem dX12_kindOn_157 : decode cX12_kindOn 157 = .ok (.ireturn, 1) := by decide +kernel
theorem dX12_kindOn_156 : decode cX12_kindOn 156 = .ok (.iconst (-1), 1) := by decide +kernel
theorem sw_1_3 {x : Int32} : ¬ x = 1 → ¬ x = 2 → ¬ x = 3 →  (x.toInt < 1 ∨ 3 < x.toInt) := by
  intros
  simp only [← Int32.toInt_inj] at *
  have hk : ∀ k : Int, x.toInt = k → x.toInt = k := fun _ h => h
  have k1 : (1 : Int32).toInt = 1 := by decide
  have k2 : (2 : Int32).toInt = 2 := by decide
  have k3 : (3 : Int32).toInt = 3 := by decide
  omega
theorem dX12_kindOn_158 : decode cX12_kindOn 158 = .ok (.iconst (-1), 1) := by decide +kernel
theorem dX12_kindOn_159 : decode cX12_kindOn 159 = .ok (.ireturn, 1) := by decide +kernel
theorem dX12_above_0 : decode cX12_above 0 = .ok (.iload_n 0, 1) := by decide +kernel
theorem dX12_above_1 : decode cX12_above 1 = .ok (.iconst 3, 1) := by decide +kernel
theorem dX12_above_2 : decode cX12_above 2 = .ok (.if_icmp .ne 7, 3) := by decide +kernel
theorem dX12_above_9 : decode cX12_above 9 = .ok (.iload_n 0, 1) := by decide +kernel
theorem dX12_above_10 : decode cX12_above 10 = .ok (.iconst 5, 1) := by decide +kernel
theorem dX12_above_11 : decode cX12_above 11 = .ok (.if_icmp .ne 7, 3) := by decide +kernel
theorem dX12_above_18 : decode cX12_above 18 = .ok (.iload_n 0, 1) := by decide +kernel
theorem dX12_above_19 : decode cX12_above 19 = .ok (.ifCond .ne 7, 3) := by decide +kernel
theorem dX12_above_22 : decode cX12_above 22 = .ok (.iconst (-1), 1) := by decide +kernel
theorem dX12_above_23 : decode cX12_above 23 = .ok (.goto 4, 3) := by decide +kernel
theorem dX12_above_27 : decode cX12_above 27 = .ok (.ireturn, 1) := by decide +kernel
theorem dX12_above_26 : decode cX12_above 26 = .ok (.iconst 0, 1) := by decide +kernel
theorem dX12_above_5 : decode cX12_above 5 = .ok (.iconst 1, 1) := by decide +kernel
theorem dX12_above_6 : decode cX12_above 6 = .ok (.goto 21, 3) := by decide +kernel
theorem dX12_above_14 : decode cX12_above 14 = .ok (.iconst 4, 1) := by decide +kernel
theorem dX12_above_15 : decode cX12_above 15 = .ok (.goto 12, 3) := by decide +kernel
theorem dX12_hasOwn_0 : decode cX12_hasOwn 0 = .ok (.iload_n 0, 1) := by decide +kernel
theorem dX12_hasOwn_1 : decode cX12_hasOwn 1 = .ok (.tableswitch 94 0 5 #[39, 41, 52, 63, 79, 79], 39) := by decide +kernel
theorem dX12_hasOwn_40 : decode cX12_hasOwn 40 = .ok (.iconst 1, 1) := by decide +kernel
theorem dX12_hasOwn_41 : decode cX12_hasOwn 41 = .ok (.ireturn, 1) := by decide +kernel
theorem dX12_hasOwn_42 : decode cX12_hasOwn 42 = .ok (.iload_n 1, 1) := by decide +kernel
theorem dX12_hasOwn_43 : decode cX12_hasOwn 43 = .ok (.iconst 1, 1) := by decide +kernel
theorem dX12_hasOwn_44 : decode cX12_hasOwn 44 = .ok (.if_icmp .ne 7, 3) := by decide +kernel
theorem dX12_hasOwn_51 : decode cX12_hasOwn 51 = .ok (.iconst 0, 1) := by decide +kernel
theorem dX12_hasOwn_52 : decode cX12_hasOwn 52 = .ok (.ireturn, 1) := by decide +kernel
theorem dX12_hasOwn_47 : decode cX12_hasOwn 47 = .ok (.iconst 1, 1) := by decide +kernel
theorem dX12_hasOwn_48 : decode cX12_hasOwn 48 = .ok (.goto 4, 3) := by decide +kernel
theorem dX12_hasOwn_53 : decode cX12_hasOwn 53 = .ok (.iload_n 1, 1) := by decide +kernel
theorem dX12_hasOwn_54 : decode cX12_hasOwn 54 = .ok (.iconst 2, 1) := by decide +kernel
theorem dX12_hasOwn_55 : decode cX12_hasOwn 55 = .ok (.if_icmp .ne 7, 3) := by decide +kernel
theorem dX12_hasOwn_62 : decode cX12_hasOwn 62 = .ok (.iconst 0, 1) := by decide +kernel
theorem dX12_hasOwn_63 : decode cX12_hasOwn 63 = .ok (.ireturn, 1) := by decide +kernel
theorem dX12_hasOwn_58 : decode cX12_hasOwn 58 = .ok (.iconst 1, 1) := by decide +kernel
theorem dX12_hasOwn_59 : decode cX12_hasOwn 59 = .ok (.goto 4, 3) := by decide +kernel
theorem dX12_hasOwn_64 : decode cX12_hasOwn 64 = .ok (.iload_n 1, 1) := by decide +kernel
theorem dX12_hasOwn_65 : decode cX12_hasOwn 65 = .ok (.iconst 1, 1) := by decide +kernel
theorem dX12_hasOwn_66 : decode cX12_hasOwn 66 = .ok (.if_icmp .eq 8, 3) := by decide +kernel
theorem dX12_hasOwn_69 : decode cX12_hasOwn 69 = .ok (.iload_n 1, 1) := by decide +kernel
theorem dX12_hasOwn_70 : decode cX12_hasOwn 70 = .ok (.iconst 3, 1) := by decide +kernel
theorem dX12_hasOwn_71 : decode cX12_hasOwn 71 = .ok (.if_icmp .ne 7, 3) := by decide +kernel
theorem dX12_hasOwn_78 : decode cX12_hasOwn 78 = .ok (.iconst 0, 1) := by decide +kernel
theorem dX12_hasOwn_79 : decode cX12_hasOwn 79 = .ok (.ireturn, 1) := by decide +kernel
theorem dX12_hasOwn_74 : decode cX12_hasOwn 74 = .ok (.iconst 1, 1) := by decide +kernel
theorem dX12_hasOwn_75 : decode cX12_hasOwn 75 = .ok (.goto 4, 3) := by decide +kernel
theorem dX12_hasOwn_80 : decode cX12_hasOwn 80 = .ok (.iload_n 1, 1) := by decide +kernel
theorem dX12_hasOwn_81 : decode cX12_hasOwn 81 = .ok (.ifCond .eq 8, 3) := by decide +kernel
theorem dX12_hasOwn_89 : decode cX12_hasOwn 89 = .ok (.iconst 1, 1) := by decide +kernel
theorem dX12_hasOwn_90 : decode cX12_hasOwn 90 = .ok (.goto 4, 3) := by decide +kernel
theorem dX12_hasOwn_94 : decode cX12_hasOwn 94 = .ok (.ireturn, 1) := by decide +kernel
theorem dX12_hasOwn_84 : decode cX12_hasOwn 84 = .ok (.iload_n 1, 1) := by decide +kernel
theorem dX12_hasOwn_85 : decode cX12_hasOwn 85 = .ok (.iconst 2, 1) := by decide +kernel
theorem dX12_hasOwn_86 : decode cX12_hasOwn 86 = .ok (.if_icmp .ne 7, 3) := by decide +kernel
theorem dX12_hasOwn_93 : decode cX12_hasOwn 93 = .ok (.iconst 0, 1) := by decide +kernel
theorem dX12_hasOwn_95 : decode cX12_hasOwn 95 = .ok (.iload_n 1, 1) := by decide +kernel
theorem dX12_hasOwn_96 : decode cX12_hasOwn 96 = .ok (.iconst 3, 1) := by decide +kernel
theorem dX12_hasOwn_97 : decode cX12_hasOwn 97 = .ok (.if_icmp .ne 7, 3) := by decide +kernel
theorem dX12_hasOwn_104 : decode cX12_hasOwn 104 = .ok (.iconst 0, 1) := by decide +kernel
theorem dX12_hasOwn_105 : decode cX12_hasOwn 105 = .ok (.ireturn, 1) := by decide +kernel
theorem dX12_hasOwn_100 : decode cX12_hasOwn 100 = .ok (.iconst 1, 1) := by decide +kernel
theorem dX12_hasOwn_101 : decode cX12_hasOwn 101 = .ok (.goto 4, 3) := by decide +kernel
end WR
/-- the reference's word for the kind of what a shelf holds -/
noncomputable def KOM (s o : Int32) (kp ks kf : Nat) (gp gs : Nat → Int32) : Int32 := ifc (s = 1) (ifc (Hs o kp) (nI (PKn (gp (o.toNatClampNeg * 6 + 1)) (gp (o.toNatClampNeg * 6 + 0)) (gp (o.toNatClampNeg * 6 + 3)))) (-1)) (ifc (s = 2) (ifc (Hs o ks) (nI (SKn (gs (o.toNatClampNeg * 8 + 6)))) (-1)) (ifc (s = 3) (ifc (Hs o kf) 6 (-1)) (-1)))
theorem wi_ten {x : Int32} : Wi (x - 10) 0 4 ↔ Wi x 10 14 := by
  constructor
  · intro h
    obtain ⟨j, hj, e⟩ := Wi_nat (N := 4) (by decide) h
    have h1 : x - 10 + 10 = x := by rw [Int32.sub_add_cancel]
    rw [e] at h1
    have e2 : x = nI (j + 10) := h1.symm.trans (nI_add j 10)
    rw [e2, wi_lit (a := 10) (b := 14) (by omega) (by decide) (by decide)]
    omega
  · intro h
    have h0 : ¬ x < 0 := fun h9 => h.1 (by
      rw [Int32.lt_iff_toInt_lt] at h9 ⊢
      have e0 : (0 : Int32).toInt = 0 := by decide
      have e10 : (10 : Int32).toInt = 10 := by decide
      omega)
    obtain ⟨n, hn, rfl⟩ := nI_of h0
    rw [wi_lit (a := 10) (b := 14) hn (by decide) (by decide)] at h
    have e2 : nI n - 10 = nI (n - 10) := pk_sub (b := 10) (by omega)
    rw [e2, wi_lit (a := 0) (b := 4) (by omega) (by decide) (by decide)]
    omega
section WR
variable {p : Program} {l : Launch} {e : Env} {R : Room} {s : State} {m : MethodId} {args : Array Value} {below : List Frame} {meth : Method} {c : Code} {H : Heap} {locs : List Loc} {cells slots : Nat} {Q : State → Prop}
variable {pc : Nat} {ls : Array Slot} {rest : List Value} {G : GG} {ws : va_W} {A : Nat → Prop} {y0 : MethodName} {b0 : ByteArray} {mL0 : Nat} {rt0 : Option FieldType} {a : Nat} {H0 : Heap}
theorem dX12_taken_0 : decode cX12_taken 0 = .ok (.iload_n 1, 1) := by decide +kernel
theorem dX12_taken_1 : decode cX12_taken 1 = .ok (.invokestatic 336, 3) := by decide +kernel
theorem dX12_taken_4 : decode cX12_taken 4 = .ok (.ifCond .eq 24, 3) := by decide +kernel
theorem dX12_taken_7 : decode cX12_taken 7 = .ok (.iload_n 2, 1) := by decide +kernel
theorem dX12_taken_8 : decode cX12_taken 8 = .ok (.iconst 0, 1) := by decide +kernel
theorem dX12_taken_9 : decode cX12_taken 9 = .ok (.bipush 6, 2) := by decide +kernel
theorem dX12_taken_11 : decode cX12_taken 11 = .ok (.invokestatic 84, 3) := by decide +kernel
theorem dX12_taken_14 : decode cX12_taken 14 = .ok (.ifCond .ne 16, 3) := by decide +kernel
theorem dX12_taken_30 : decode cX12_taken 30 = .ok (.aload_n 0, 1) := by decide +kernel
theorem dX12_taken_31 : decode cX12_taken 31 = .ok (.getfield 72, 3) := by decide +kernel
theorem dX12_taken_34 : decode cX12_taken 34 = .ok (.iload_n 1, 1) := by decide +kernel
theorem dX12_taken_35 : decode cX12_taken 35 = .ok (.iaload, 1) := by decide +kernel
theorem dX12_taken_36 : decode cX12_taken 36 = .ok (.iconst 4, 1) := by decide +kernel
theorem dX12_taken_37 : decode cX12_taken 37 = .ok (.if_icmp .ne 28, 3) := by decide +kernel
theorem dX12_taken_65 : decode cX12_taken 65 = .ok (.aload_n 0, 1) := by decide +kernel
theorem dX12_taken_66 : decode cX12_taken 66 = .ok (.iload_n 1, 1) := by decide +kernel
theorem dX12_taken_67 : decode cX12_taken 67 = .ok (.invokevirtual 345, 3) := by decide +kernel
theorem m_1309 : Cond.code yX12_kindOn cX12_kindOn 4 (some .int) ∈ BW := List.mem_of_getElem? (i := 1309) (by decide +kernel)
theorem m_1306 : Cond.methodLink RX12 345 yX12_kindOn ∈ BW := List.mem_of_getElem? (i := 1306) (by decide +kernel)
theorem m_1307 : Cond.instanceMethod yX12_kindOn ∈ BW := List.mem_of_getElem? (i := 1307) (by decide +kernel)
theorem m_1308 : Cond.selects RX12 yX12_kindOn yX12_kindOn ∈ BW := List.mem_of_getElem? (i := 1308) (by decide +kernel)
theorem si_X12_345 : SV RX12 RX12 345 yX12_kindOn cX12_kindOn 4 (some .int) 1 := ⟨⟨m_1306, m_1307, m_1308, m_5, m_1309⟩, rfl, by decide +kernel, by decide +kernel, by decide +kernel⟩
theorem dX12_taken_70 : decode cX12_taken 70 = .ok (.istore_n 3, 1) := by decide +kernel
theorem dX12_taken_71 : decode cX12_taken 71 = .ok (.iload_n 3, 1) := by decide +kernel
theorem dX12_taken_72 : decode cX12_taken 72 = .ok (.ifCond .ge 6, 3) := by decide +kernel
theorem dX12_taken_75 : decode cX12_taken 75 = .ok (.bipush (-11), 2) := by decide +kernel
theorem dX12_taken_77 : decode cX12_taken 77 = .ok (.ireturn, 1) := by decide +kernel
theorem dX12_taken_78 : decode cX12_taken 78 = .ok (.iload_n 3, 1) := by decide +kernel
theorem dX12_taken_79 : decode cX12_taken 79 = .ok (.ifCond .lt 16, 3) := by decide +kernel
theorem dX12_taken_82 : decode cX12_taken 82 = .ok (.iload_n 3, 1) := by decide +kernel
theorem dX12_taken_83 : decode cX12_taken 83 = .ok (.iload_n 2, 1) := by decide +kernel
theorem dX12_taken_84 : decode cX12_taken 84 = .ok (.if_icmp .eq 11, 3) := by decide +kernel
theorem dX12_taken_95 : decode cX12_taken 95 = .ok (.iload_n 3, 1) := by decide +kernel
theorem dX12_taken_96 : decode cX12_taken 96 = .ok (.iload_n 2, 1) := by decide +kernel
theorem dX12_taken_97 : decode cX12_taken 97 = .ok (.if_icmp .ne 12, 3) := by decide +kernel
theorem dX12_taken_100 : decode cX12_taken 100 = .ok (.aload_n 0, 1) := by decide +kernel
theorem dX12_taken_101 : decode cX12_taken 101 = .ok (.getfield 75, 3) := by decide +kernel
theorem dX12_taken_104 : decode cX12_taken 104 = .ok (.iload_n 1, 1) := by decide +kernel
theorem dX12_taken_105 : decode cX12_taken 105 = .ok (.iaload, 1) := by decide +kernel
theorem dX12_taken_106 : decode cX12_taken 106 = .ok (.goto 5, 3) := by decide +kernel
theorem dX12_taken_111 : decode cX12_taken 111 = .ok (.ireturn, 1) := by decide +kernel
theorem dX12_taken_87 : decode cX12_taken 87 = .ok (.iload_n 3, 1) := by decide +kernel
theorem dX12_taken_88 : decode cX12_taken 88 = .ok (.invokestatic 348, 3) := by decide +kernel
theorem m_1312 : Cond.code yX12_above cX12_above 1 (some .int) ∈ BW := List.mem_of_getElem? (i := 1312) (by decide +kernel)
theorem m_1310 : Cond.methodLink RX12 348 yX12_above ∈ BW := List.mem_of_getElem? (i := 1310) (by decide +kernel)
theorem m_1311 : Cond.static yX12_above ∈ BW := List.mem_of_getElem? (i := 1311) (by decide +kernel)
theorem si_X12_348 : SS RX12 348 yX12_above cX12_above 1 (some .int) 1 := ⟨⟨m_1310, m_1311, m_5, m_1312⟩, ⟨by decide +kernel, by decide +kernel, by decide +kernel⟩⟩
theorem dX12_taken_91 : decode cX12_taken 91 = .ok (.istore_n 3, 1) := by decide +kernel
theorem dX12_taken_92 : decode cX12_taken 92 = .ok (.goto (-14), 3) := by decide +kernel
theorem dX12_taken_109 : decode cX12_taken 109 = .ok (.bipush (-13), 2) := by decide +kernel
theorem dX12_taken_40 : decode cX12_taken 40 = .ok (.iload_n 2, 1) := by decide +kernel
theorem dX12_taken_41 : decode cX12_taken 41 = .ok (.bipush 10, 2) := by decide +kernel
theorem dX12_taken_43 : decode cX12_taken 43 = .ok (.isub, 1) := by decide +kernel
theorem dX12_taken_44 : decode cX12_taken 44 = .ok (.aload_n 0, 1) := by decide +kernel
theorem dX12_taken_45 : decode cX12_taken 45 = .ok (.getfield 75, 3) := by decide +kernel
theorem dX12_taken_48 : decode cX12_taken 48 = .ok (.iload_n 1, 1) := by decide +kernel
theorem dX12_taken_49 : decode cX12_taken 49 = .ok (.iaload, 1) := by decide +kernel
theorem dX12_taken_50 : decode cX12_taken 50 = .ok (.if_icmp .ne 12, 3) := by decide +kernel
theorem dX12_taken_62 : decode cX12_taken 62 = .ok (.bipush (-13), 2) := by decide +kernel
theorem dX12_taken_64 : decode cX12_taken 64 = .ok (.ireturn, 1) := by decide +kernel
theorem dX12_taken_53 : decode cX12_taken 53 = .ok (.aload_n 0, 1) := by decide +kernel
theorem dX12_taken_54 : decode cX12_taken 54 = .ok (.getfield 78, 3) := by decide +kernel
theorem dX12_taken_57 : decode cX12_taken 57 = .ok (.iload_n 1, 1) := by decide +kernel
theorem dX12_taken_58 : decode cX12_taken 58 = .ok (.iaload, 1) := by decide +kernel
theorem dX12_taken_59 : decode cX12_taken 59 = .ok (.goto 5, 3) := by decide +kernel
theorem dX12_taken_17 : decode cX12_taken 17 = .ok (.iload_n 2, 1) := by decide +kernel
theorem dX12_taken_18 : decode cX12_taken 18 = .ok (.bipush 10, 2) := by decide +kernel
theorem dX12_taken_20 : decode cX12_taken 20 = .ok (.bipush 14, 2) := by decide +kernel
theorem dX12_taken_22 : decode cX12_taken 22 = .ok (.invokestatic 84, 3) := by decide +kernel
theorem dX12_taken_25 : decode cX12_taken 25 = .ok (.ifCond .ne 5, 3) := by decide +kernel
theorem dX12_taken_28 : decode cX12_taken 28 = .ok (.iconst (-1), 1) := by decide +kernel
theorem dX12_taken_29 : decode cX12_taken 29 = .ok (.ireturn, 1) := by decide +kernel
end WR
theorem TK.cg {x1 x2 : Int32} {hw hn ht sh sf ss fp gp fs gs : Nat → Int32} {kp ks kf : Nat} (h : SLR hw hn ht sh sf ss) (hp : ∀ i, i < 72 → gp i = fp i) (hs : ∀ i, i < 128 → gs i = fs i) (hkp : kp ≤ 12) (hks : ks ≤ 16) : ifc (Wi x1 0 3) (ifc (Wi x2 0 6 ∨ Wi (x2 - 10) 0 4) (ifc (HLD (hw x1.toNatClampNeg) (hn x1.toNatClampNeg) kp ks kf = 4) (-11) (ifc (hw x1.toNatClampNeg = 3) (ifc (ht x1.toNatClampNeg = x2 - 10) (hn x1.toNatClampNeg) (-13)) (ifc (UNl (KNn (hw x1.toNatClampNeg) (hn x1.toNatClampNeg).toNatClampNeg fp fs) x2) (hn x1.toNatClampNeg) (-13)))) (-1)) (-1) = ifc (Wi x1 0 3) (ifc (Wi x2 0 6 ∨ Wi x2 10 14) (ifc (sh x1.toNatClampNeg = 4) (ifc (x2 - 10 = sf x1.toNatClampNeg) (ss x1.toNatClampNeg) (-13)) (ifc (KOM (sh x1.toNatClampNeg) (sf x1.toNatClampNeg) kp ks kf gp gs < 0) (-11) (ifc (UNl (KOM (sh x1.toNatClampNeg) (sf x1.toNatClampNeg) kp ks kf gp gs).toNatClampNeg x2) (sf x1.toNatClampNeg) (-13)))) (-1)) (-1) := by
  by_cases c1 : Wi x1 0 3
  · rw [ifc_t c1, ifc_t c1]
    obtain ⟨j, hj, rfl⟩ := Wi3 c1
    rw [nI_clamp (n := j) (by omega)]
    have hc : (Wi x2 0 6 ∨ Wi (x2 - 10) 0 4) = (Wi x2 0 6 ∨ Wi x2 10 14) := by rw [propext wi_ten]
    rw [hc]
    refine ifc_cg fun _ => ?_
    have n34 : ¬ (3 : Int32) = 4 := by decide
    rcases h j hj with ⟨a1, a2⟩ | ⟨a1, a2, a3⟩ | ⟨a1, a2, a3⟩ | ⟨a1, a2, a3⟩ | ⟨a1, a2, a3, a4, a5⟩
    · have e1 : HLD 4 (hn j) kp ks kf = 4 := by unfold HLD; rw [ifc_f (q := (4 : Int32) = 0) (by decide), ifc_f (q := (4 : Int32) = 1) (by decide), ifc_f (q := (4 : Int32) = 2) (by decide)]
      have e2 : KOM 0 (sf j) kp ks kf gp gs = (-1) := by unfold KOM; rw [ifc_f (q := (0 : Int32) = 1) (by decide), ifc_f (q := (0 : Int32) = 2) (by decide), ifc_f (q := (0 : Int32) = 3) (by decide)]
      rw [a1, a2, e1, e2, ifc_t (q := (4 : Int32) = 4) rfl, ifc_f (q := (0 : Int32) = 4) (by decide), ifc_t (q := (-1 : Int32) < 0) (by decide)]
    · have e1 : HLD 0 (sf j) kp ks kf = ifc (Hs (sf j) kp) 0 4 := by unfold HLD; rw [ifc_t (q := (0 : Int32) = 0) rfl]
      have e2 : KOM 1 (sf j) kp ks kf gp gs = ifc (Hs (sf j) kp) (nI (PKn (gp ((sf j).toNatClampNeg * 6 + 1)) (gp ((sf j).toNatClampNeg * 6 + 0)) (gp ((sf j).toNatClampNeg * 6 + 3)))) (-1) := by unfold KOM; rw [ifc_t (q := (1 : Int32) = 1) rfl]
      rw [a1, a2, a3, ifc_f (q := (1 : Int32) = 4) (by decide), e1, e2]
      by_cases c2 : Hs (sf j) kp
      · have e3 : KNn 0 (sf j).toNatClampNeg fp fs = PKn (gp ((sf j).toNatClampNeg * 6 + 1)) (gp ((sf j).toNatClampNeg * 6 + 0)) (gp ((sf j).toNatClampNeg * 6 + 3)) := by
          have hb := Hs_at (by omega) c2
          unfold KNn
          rw [ifn_t (q := (0 : Int32) = 0) rfl, hp ((sf j).toNatClampNeg * 6 + 1) (by omega), hp ((sf j).toNatClampNeg * 6 + 0) (by omega), hp ((sf j).toNatClampNeg * 6 + 3) (by omega)]
        have hl : PKn (gp ((sf j).toNatClampNeg * 6 + 1)) (gp ((sf j).toNatClampNeg * 6 + 0)) (gp ((sf j).toNatClampNeg * 6 + 3)) < 7 := PKn.lt
        rw [ifc_t c2, ifc_t c2, ifc_f (q := (0 : Int32) = 4) (by decide), ifc_f (q := (0 : Int32) = 3) (by decide), e3, ifc_f (q := nI (PKn (gp ((sf j).toNatClampNeg * 6 + 1)) (gp ((sf j).toNatClampNeg * 6 + 0)) (gp ((sf j).toNatClampNeg * 6 + 3))) < 0) (nI_nn (by omega)), nI_clamp (n := PKn (gp ((sf j).toNatClampNeg * 6 + 1)) (gp ((sf j).toNatClampNeg * 6 + 0)) (gp ((sf j).toNatClampNeg * 6 + 3))) (by omega)]
      · rw [ifc_f c2, ifc_f c2, ifc_t (q := (4 : Int32) = 4) rfl, ifc_t (q := (-1 : Int32) < 0) (by decide)]
    · have e1 : HLD 1 (sf j) kp ks kf = ifc (Hs (sf j) ks) 1 4 := by unfold HLD; rw [ifc_f (q := (1 : Int32) = 0) (by decide), ifc_t (q := (1 : Int32) = 1) rfl]
      have e2 : KOM 2 (sf j) kp ks kf gp gs = ifc (Hs (sf j) ks) (nI (SKn (gs ((sf j).toNatClampNeg * 8 + 6)))) (-1) := by unfold KOM; rw [ifc_f (q := (2 : Int32) = 1) (by decide), ifc_t (q := (2 : Int32) = 2) rfl]
      rw [a1, a2, a3, ifc_f (q := (2 : Int32) = 4) (by decide), e1, e2]
      by_cases c2 : Hs (sf j) ks
      · have e3 : KNn 1 (sf j).toNatClampNeg fp fs = SKn (gs ((sf j).toNatClampNeg * 8 + 6)) := by
          have hb := Hs_at (by omega) c2
          unfold KNn
          rw [ifn_f (q := (1 : Int32) = 0) (by decide), ifn_t (q := (1 : Int32) = 1) rfl, hs ((sf j).toNatClampNeg * 8 + 6) (by omega)]
        have hl : SKn (gs ((sf j).toNatClampNeg * 8 + 6)) < 7 := SKn.lt
        rw [ifc_t c2, ifc_t c2, ifc_f (q := (1 : Int32) = 4) (by decide), ifc_f (q := (1 : Int32) = 3) (by decide), e3, ifc_f (q := nI (SKn (gs ((sf j).toNatClampNeg * 8 + 6))) < 0) (nI_nn (by omega)), nI_clamp (n := SKn (gs ((sf j).toNatClampNeg * 8 + 6))) (by omega)]
      · rw [ifc_f c2, ifc_f c2, ifc_t (q := (4 : Int32) = 4) rfl, ifc_t (q := (-1 : Int32) < 0) (by decide)]
    · have e1 : HLD 2 (sf j) kp ks kf = ifc (Hs (sf j) kf) 2 4 := by unfold HLD; rw [ifc_f (q := (2 : Int32) = 0) (by decide), ifc_f (q := (2 : Int32) = 1) (by decide), ifc_t (q := (2 : Int32) = 2) rfl]
      have e2 : KOM 3 (sf j) kp ks kf gp gs = ifc (Hs (sf j) kf) 6 (-1) := by unfold KOM; rw [ifc_f (q := (3 : Int32) = 1) (by decide), ifc_f (q := (3 : Int32) = 2) (by decide), ifc_t (q := (3 : Int32) = 3) rfl]
      rw [a1, a2, a3, ifc_f n34, e1, e2]
      by_cases c2 : Hs (sf j) kf
      · have e3 : KNn 2 (sf j).toNatClampNeg fp fs = 6 := by unfold KNn; rw [ifn_f (q := (2 : Int32) = 0) (by decide), ifn_f (q := (2 : Int32) = 1) (by decide)]
        have e6 : (6 : Int32).toNatClampNeg = 6 := by decide
        rw [ifc_t c2, ifc_t c2, ifc_f (q := (2 : Int32) = 4) (by decide), ifc_f (q := (2 : Int32) = 3) (by decide), e3, ifc_f (q := (6 : Int32) < 0) (by decide), e6]
      · rw [ifc_f c2, ifc_f c2, ifc_t (q := (4 : Int32) = 4) rfl, ifc_t (q := (-1 : Int32) < 0) (by decide)]
    · have e1 : HLD 3 (hn j) kp ks kf = 3 := by unfold HLD; rw [ifc_f (q := (3 : Int32) = 0) (by decide), ifc_f (q := (3 : Int32) = 1) (by decide), ifc_f (q := (3 : Int32) = 2) (by decide)]
      rw [a1, a2, e1, ifc_f n34, ifc_t (q := (3 : Int32) = 3) rfl, ifc_t (q := (4 : Int32) = 4) rfl, a3, a4]
      by_cases c5 : sf j = x2 - 10
      · rw [ifc_t c5, ifc_t c5.symm]
      · rw [ifc_f c5, ifc_f (fun h9 => c5 h9.symm)]
  · rw [ifc_f c1, ifc_f c1]
section WR
variable {p : Program} {l : Launch} {e : Env} {R : Room} {s : State} {m : MethodId} {args : Array Value} {below : List Frame} {meth : Method} {c : Code} {H : Heap} {locs : List Loc} {cells slots : Nat} {Q : State → Prop}
variable {pc : Nat} {ls : Array Slot} {rest : List Value} {G : GG} {ws : va_W} {A : Nat → Prop} {y0 : MethodName} {b0 : ByteArray} {mL0 : Nat} {rt0 : Option FieldType} {a : Nat} {H0 : Heap}
theorem dX12_began_0 : decode cX12_began 0 = .ok (.aload_n 0, 1) := by decide +kernel
theorem dX12_began_1 : decode cX12_began 1 = .ok (.getfield 351, 3) := by decide +kernel
theorem m_1346 : Cond.fieldLink RX12 351 "InquiryBenchModel" "traced" "I" ∈ BW := List.mem_of_getElem? (i := 1346) (by decide +kernel)
theorem gf_X12_351 (hC : CX p s m meth c y0 b0 mL0 rt0 args) (hy0 : y0.cls = RX12) (hK : KK G s) (hP : va_P G.1 vwCl ws H) (q0 : Nat) {fs : List Value} {v : Value} (he : ws[q0]? = some (a, .inr (12, fs))) (hv : fs[35]? = some v) (hdg : decode b0 pc = .ok (.getfield 351, 3)) (kk : W p l e R s m args below meth c H locs cells slots Q (F0 m (pc + 3) ls (v :: rest))) : W p l e R s m args below meth c H locs cells slots Q (F0 m pc ls (.ref a :: rest)) := by
  obtain ⟨hx, hb, hr, hml, hB, hown, hlocks, hnm⟩ := hC
  rw [hy0] at hown
  exact va_get (ci := 12) (C := RX12) (T := TX12) (N := 41) hx hb hB in_X12 hown hK.1 hP q0 he rfl 35 (by decide) (hB _ m_1346) (fun _ h => h) hv hdg kk
theorem dX12_began_4 : decode cX12_began 4 = .ok (.bipush 30, 2) := by decide +kernel
theorem dX12_began_6 : decode cX12_began 6 = .ok (.if_icmp .ge 23, 3) := by decide +kernel
theorem dX12_began_29 : decode cX12_began 29 = .ok (.return_, 1) := by decide +kernel
theorem dX12_began_9 : decode cX12_began 9 = .ok (.aload_n 0, 1) := by decide +kernel
theorem dX12_began_10 : decode cX12_began 10 = .ok (.getfield 81, 3) := by decide +kernel
theorem m_207 : Cond.fieldLink RX12 81 "InquiryBenchModel" "trace" "[I" ∈ BW := List.mem_of_getElem? (i := 207) (by decide +kernel)
theorem gf_X12_81 (hC : CX p s m meth c y0 b0 mL0 rt0 args) (hy0 : y0.cls = RX12) (hK : KK G s) (hP : va_P G.1 vwCl ws H) (q0 : Nat) {fs : List Value} {v : Value} (he : ws[q0]? = some (a, .inr (12, fs))) (hv : fs[34]? = some v) (hdg : decode b0 pc = .ok (.getfield 81, 3)) (kk : W p l e R s m args below meth c H locs cells slots Q (F0 m (pc + 3) ls (v :: rest))) : W p l e R s m args below meth c H locs cells slots Q (F0 m pc ls (.ref a :: rest)) := by
  obtain ⟨hx, hb, hr, hml, hB, hown, hlocks, hnm⟩ := hC
  rw [hy0] at hown
  exact va_get (ci := 12) (C := RX12) (T := TX12) (N := 41) hx hb hB in_X12 hown hK.1 hP q0 he rfl 34 (by decide) (hB _ m_207) (fun _ h => h) hv hdg kk
theorem dX12_began_13 : decode cX12_began 13 = .ok (.aload_n 0, 1) := by decide +kernel
theorem dX12_began_14 : decode cX12_began 14 = .ok (.getfield 351, 3) := by decide +kernel
theorem dX12_began_17 : decode cX12_began 17 = .ok (.iload_n 1, 1) := by decide +kernel
theorem dX12_began_18 : decode cX12_began 18 = .ok (.iastore, 1) := by decide +kernel
theorem dX12_began_19 : decode cX12_began 19 = .ok (.aload_n 0, 1) := by decide +kernel
theorem dX12_began_20 : decode cX12_began 20 = .ok (.dup, 1) := by decide +kernel
theorem dX12_began_21 : decode cX12_began 21 = .ok (.getfield 351, 3) := by decide +kernel
theorem dX12_began_24 : decode cX12_began 24 = .ok (.iconst 1, 1) := by decide +kernel
theorem dX12_began_25 : decode cX12_began 25 = .ok (.iadd, 1) := by decide +kernel
theorem dX12_began_26 : decode cX12_began 26 = .ok (.putfield 351, 3) := by decide +kernel
theorem pf_X12_351 (hC : CX p s m meth c y0 b0 mL0 rt0 args) (hy0 : y0.cls = RX12) (hK : KK G s) (hP : va_P G.1 vwCl ws H) (hD : va_D A ws) (hS : va_S A H0 H locs) (q0 : Nat) {fs : List Value} {v : Value} {ws' : va_W} (he : ws[q0]? = some (a, .inr (12, fs))) (hl : 35 < fs.length) (hws : ws.set q0 (a, .inr (12, fs.set 35 v)) = ws') (hn : narrow .int v = v) (hfit : fits .int v = true) (hdg : decode b0 pc = .ok (.putfield 351, 3)) (kk : ∀ (H1 : Heap) (locs1 : List Loc), va_P G.1 vwCl ws' H1 → va_D A ws' → va_S A H0 H1 locs1 → W p l e R s m args below meth c H1 locs1 cells slots Q (F0 m (pc + 3) ls rest)) : W p l e R s m args below meth c H locs cells slots Q (F0 m pc ls (v :: .ref a :: rest)) := by
  obtain ⟨hx, hb, hr, hml, hB, hown, hlocks, hnm⟩ := hC
  rw [hy0] at hown
  subst hws
  exact va_put (ci := 12) (ty := .int) (C := RX12) (T := TX12) (N := 41) hx hb hB in_X12 tyX12 tyX12_ok nmX12 hown hK.1 hP hD hS q0 he rfl 35 (by decide) (hB _ m_1346) (fun _ h => h) rfl (by decide +kernel) hn hfit hl hdg kk
end WR
theorem nz_sub {a b : Int32} (h : ¬ a = b) : ¬ a - b = 0 := by
  intro h9
  apply h
  have e : a - b + b = 0 + b := by rw [h9]
  rw [Int32.sub_add_cancel, Int32.zero_add] at e
  exact e
section WR
variable {p : Program} {l : Launch} {e : Env} {R : Room} {s : State} {m : MethodId} {args : Array Value} {below : List Frame} {meth : Method} {c : Code} {H : Heap} {locs : List Loc} {cells slots : Nat} {Q : State → Prop}
variable {pc : Nat} {ls : Array Slot} {rest : List Value} {G : GG} {ws : va_W} {A : Nat → Prop} {y0 : MethodName} {b0 : ByteArray} {mL0 : Nat} {rt0 : Option FieldType} {a : Nat} {H0 : Heap}
theorem dX12_body_0 : decode cX12_body 0 = .ok (.iconst 4, 1) := by decide +kernel
theorem dX12_body_1 : decode cX12_body 1 = .ok (.iload_n 1, 1) := by decide +kernel
theorem dX12_body_2 : decode cX12_body 2 = .ok (.imul, 1) := by decide +kernel
theorem dX12_body_3 : decode cX12_body 3 = .ok (.iload_n 2, 1) := by decide +kernel
theorem dX12_body_4 : decode cX12_body 4 = .ok (.iadd, 1) := by decide +kernel
theorem dX12_body_5 : decode cX12_body 5 = .ok (.tableswitch 348 0 22 #[107, 120, 135, 153, 348, 202, 348, 348, 348, 348, 221, 348, 348, 237, 348, 253, 269, 348, 288, 348, 329, 348, 313], 107) := by decide +kernel
theorem dX12_body_112 : decode cX12_body 112 = .ok (.aload_n 0, 1) := by decide +kernel
theorem dX12_body_113 : decode cX12_body 113 = .ok (.bipush 10, 2) := by decide +kernel
theorem dX12_body_115 : decode cX12_body 115 = .ok (.invokevirtual 366, 3) := by decide +kernel
theorem m_1363 : Cond.code yX12_began cX12_began 2 none ∈ BW := List.mem_of_getElem? (i := 1363) (by decide +kernel)
theorem m_1360 : Cond.methodLink RX12 366 yX12_began ∈ BW := List.mem_of_getElem? (i := 1360) (by decide +kernel)
theorem m_1361 : Cond.instanceMethod yX12_began ∈ BW := List.mem_of_getElem? (i := 1361) (by decide +kernel)
theorem m_1362 : Cond.selects RX12 yX12_began yX12_began ∈ BW := List.mem_of_getElem? (i := 1362) (by decide +kernel)
theorem si_X12_366 : SV RX12 RX12 366 yX12_began cX12_began 2 none 1 := ⟨⟨m_1360, m_1361, m_1362, m_5, m_1363⟩, rfl, by decide +kernel, by decide +kernel, by decide +kernel⟩
theorem dX12_body_118 : decode cX12_body 118 = .ok (.iload_n 3, 1) := by decide +kernel
theorem dX12_body_119 : decode cX12_body 119 = .ok (.aload_n 0, 1) := by decide +kernel
theorem dX12_body_120 : decode cX12_body 120 = .ok (.getfield 369, 3) := by decide +kernel
theorem m_1350 : Cond.fieldLink RX12 369 "InquiryBenchModel" "size" "I" ∈ BW := List.mem_of_getElem? (i := 1350) (by decide +kernel)
theorem gf_X12_369 (hC : CX p s m meth c y0 b0 mL0 rt0 args) (hy0 : y0.cls = RX12) (hK : KK G s) (hP : va_P G.1 vwCl ws H) (q0 : Nat) {fs : List Value} {v : Value} (he : ws[q0]? = some (a, .inr (12, fs))) (hv : fs[39]? = some v) (hdg : decode b0 pc = .ok (.getfield 369, 3)) (kk : W p l e R s m args below meth c H locs cells slots Q (F0 m (pc + 3) ls (v :: rest))) : W p l e R s m args below meth c H locs cells slots Q (F0 m pc ls (.ref a :: rest)) := by
  obtain ⟨hx, hb, hr, hml, hB, hown, hlocks, hnm⟩ := hC
  rw [hy0] at hown
  exact va_get (ci := 12) (C := RX12) (T := TX12) (N := 41) hx hb hB in_X12 hown hK.1 hP q0 he rfl 39 (by decide) (hB _ m_1350) (fun _ h => h) hv hdg kk
theorem dX12_body_123 : decode cX12_body 123 = .ok (.iadd, 1) := by decide +kernel
theorem dX12_body_124 : decode cX12_body 124 = .ok (.ireturn, 1) := by decide +kernel
theorem dX12_bodyFrom_0 : decode cX12_bodyFrom 0 = .ok (.iload_n 1, 1) := by decide +kernel
theorem dX12_bodyFrom_1 : decode cX12_bodyFrom 1 = .ok (.istore 4, 2) := by decide +kernel
theorem dX12_bodyFrom_3 : decode cX12_bodyFrom 3 = .ok (.iload 4, 2) := by decide +kernel
theorem dX12_bodyFrom_5 : decode cX12_bodyFrom 5 = .ok (.iload_n 2, 1) := by decide +kernel
theorem dX12_bodyFrom_6 : decode cX12_bodyFrom 6 = .ok (.invokestatic 360, 3) := by decide +kernel
theorem m_1367 : Cond.code yX12_hasOwn cX12_hasOwn 2 (some .boolean) ∈ BW := List.mem_of_getElem? (i := 1367) (by decide +kernel)
theorem m_1365 : Cond.methodLink RX12 360 yX12_hasOwn ∈ BW := List.mem_of_getElem? (i := 1365) (by decide +kernel)
theorem m_1366 : Cond.static yX12_hasOwn ∈ BW := List.mem_of_getElem? (i := 1366) (by decide +kernel)
theorem si_X12_360 : SS RX12 360 yX12_hasOwn cX12_hasOwn 2 (some .boolean) 2 := ⟨⟨m_1365, m_1366, m_5, m_1367⟩, ⟨by decide +kernel, by decide +kernel, by decide +kernel⟩⟩
theorem dX12_bodyFrom_9 : decode cX12_bodyFrom 9 = .ok (.ifCond .ne 13, 3) := by decide +kernel
theorem dX12_bodyFrom_22 : decode cX12_bodyFrom 22 = .ok (.aload_n 0, 1) := by decide +kernel
theorem dX12_bodyFrom_23 : decode cX12_bodyFrom 23 = .ok (.iload 4, 2) := by decide +kernel
theorem dX12_bodyFrom_25 : decode cX12_bodyFrom 25 = .ok (.iload_n 2, 1) := by decide +kernel
theorem dX12_bodyFrom_26 : decode cX12_bodyFrom 26 = .ok (.iload_n 3, 1) := by decide +kernel
theorem dX12_bodyFrom_27 : decode cX12_bodyFrom 27 = .ok (.invokevirtual 363, 3) := by decide +kernel
theorem m_1359 : Cond.code yX12_body cX12_body 6 (some .int) ∈ BW := List.mem_of_getElem? (i := 1359) (by decide +kernel)
theorem m_1368 : Cond.methodLink RX12 363 yX12_body ∈ BW := List.mem_of_getElem? (i := 1368) (by decide +kernel)
theorem m_1369 : Cond.instanceMethod yX12_body ∈ BW := List.mem_of_getElem? (i := 1369) (by decide +kernel)
theorem m_1370 : Cond.selects RX12 yX12_body yX12_body ∈ BW := List.mem_of_getElem? (i := 1370) (by decide +kernel)
theorem si_X12_363 : SV RX12 RX12 363 yX12_body cX12_body 6 (some .int) 3 := ⟨⟨m_1368, m_1369, m_1370, m_5, m_1359⟩, rfl, by decide +kernel, by decide +kernel, by decide +kernel⟩
theorem dX12_bodyFrom_30 : decode cX12_bodyFrom 30 = .ok (.ireturn, 1) := by decide +kernel
theorem dX12_body_274 : decode cX12_body 274 = .ok (.aload_n 0, 1) := by decide +kernel
theorem dX12_body_275 : decode cX12_body 275 = .ok (.bipush 50, 2) := by decide +kernel
theorem dX12_body_277 : decode cX12_body 277 = .ok (.invokevirtual 366, 3) := by decide +kernel
theorem dX12_body_280 : decode cX12_body 280 = .ok (.aload_n 0, 1) := by decide +kernel
theorem dX12_body_281 : decode cX12_body 281 = .ok (.iconst 0, 1) := by decide +kernel
theorem dX12_body_282 : decode cX12_body 282 = .ok (.iconst 0, 1) := by decide +kernel
theorem dX12_body_283 : decode cX12_body 283 = .ok (.iload_n 3, 1) := by decide +kernel
theorem dX12_body_284 : decode cX12_body 284 = .ok (.invokevirtual 357, 3) := by decide +kernel
theorem m_1364 : Cond.code yX12_bodyFrom cX12_bodyFrom 5 (some .int) ∈ BW := List.mem_of_getElem? (i := 1364) (by decide +kernel)
theorem m_1356 : Cond.methodLink RX12 357 yX12_bodyFrom ∈ BW := List.mem_of_getElem? (i := 1356) (by decide +kernel)
theorem m_1357 : Cond.instanceMethod yX12_bodyFrom ∈ BW := List.mem_of_getElem? (i := 1357) (by decide +kernel)
theorem m_1358 : Cond.selects RX12 yX12_bodyFrom yX12_bodyFrom ∈ BW := List.mem_of_getElem? (i := 1358) (by decide +kernel)
theorem si_X12_357 : SV RX12 RX12 357 yX12_bodyFrom cX12_bodyFrom 5 (some .int) 3 := ⟨⟨m_1356, m_1357, m_1358, m_5, m_1364⟩, rfl, by decide +kernel, by decide +kernel, by decide +kernel⟩
theorem dX12_body_287 : decode cX12_body 287 = .ok (.aload_n 0, 1) := by decide +kernel
theorem dX12_body_288 : decode cX12_body 288 = .ok (.getfield 378, 3) := by decide +kernel
theorem m_1348 : Cond.fieldLink RX12 378 "InquiryBenchModel" "numbe\x72" "I" ∈ BW := List.mem_of_getElem? (i := 1348) (by decide +kernel)
theorem gf_X12_378 (hC : CX p s m meth c y0 b0 mL0 rt0 args) (hy0 : y0.cls = RX12) (hK : KK G s) (hP : va_P G.1 vwCl ws H) (q0 : Nat) {fs : List Value} {v : Value} (he : ws[q0]? = some (a, .inr (12, fs))) (hv : fs[37]? = some v) (hdg : decode b0 pc = .ok (.getfield 378, 3)) (kk : W p l e R s m args below meth c H locs cells slots Q (F0 m (pc + 3) ls (v :: rest))) : W p l e R s m args below meth c H locs cells slots Q (F0 m pc ls (.ref a :: rest)) := by
  obtain ⟨hx, hb, hr, hml, hB, hown, hlocks, hnm⟩ := hC
  rw [hy0] at hown
  exact va_get (ci := 12) (C := RX12) (T := TX12) (N := 41) hx hb hB in_X12 hown hK.1 hP q0 he rfl 37 (by decide) (hB _ m_1348) (fun _ h => h) hv hdg kk
theorem dX12_body_291 : decode cX12_body 291 = .ok (.isub, 1) := by decide +kernel
theorem dX12_body_292 : decode cX12_body 292 = .ok (.ireturn, 1) := by decide +kernel
theorem dX12_body_334 : decode cX12_body 334 = .ok (.aload_n 0, 1) := by decide +kernel
theorem dX12_body_335 : decode cX12_body 335 = .ok (.bipush 61, 2) := by decide +kernel
theorem dX12_body_337 : decode cX12_body 337 = .ok (.invokevirtual 366, 3) := by decide +kernel
theorem dX12_body_340 : decode cX12_body 340 = .ok (.aload_n 0, 1) := by decide +kernel
theorem dX12_body_341 : decode cX12_body 341 = .ok (.iconst 4, 1) := by decide +kernel
theorem dX12_body_342 : decode cX12_body 342 = .ok (.iconst 0, 1) := by decide +kernel
theorem dX12_body_343 : decode cX12_body 343 = .ok (.iload_n 3, 1) := by decide +kernel
theorem dX12_body_344 : decode cX12_body 344 = .ok (.aload_n 0, 1) := by decide +kernel
theorem dX12_body_345 : decode cX12_body 345 = .ok (.getfield 375, 3) := by decide +kernel
theorem m_1349 : Cond.fieldLink RX12 375 "InquiryBenchModel" "whose" "I" ∈ BW := List.mem_of_getElem? (i := 1349) (by decide +kernel)
theorem gf_X12_375 (hC : CX p s m meth c y0 b0 mL0 rt0 args) (hy0 : y0.cls = RX12) (hK : KK G s) (hP : va_P G.1 vwCl ws H) (q0 : Nat) {fs : List Value} {v : Value} (he : ws[q0]? = some (a, .inr (12, fs))) (hv : fs[38]? = some v) (hdg : decode b0 pc = .ok (.getfield 375, 3)) (kk : W p l e R s m args below meth c H locs cells slots Q (F0 m (pc + 3) ls (v :: rest))) : W p l e R s m args below meth c H locs cells slots Q (F0 m pc ls (.ref a :: rest)) := by
  obtain ⟨hx, hb, hr, hml, hB, hown, hlocks, hnm⟩ := hC
  rw [hy0] at hown
  exact va_get (ci := 12) (C := RX12) (T := TX12) (N := 41) hx hb hB in_X12 hown hK.1 hP q0 he rfl 38 (by decide) (hB _ m_1349) (fun _ h => h) hv hdg kk
theorem dX12_body_348 : decode cX12_body 348 = .ok (.iadd, 1) := by decide +kernel
theorem dX12_body_349 : decode cX12_body 349 = .ok (.invokevirtual 357, 3) := by decide +kernel
theorem dX12_body_352 : decode cX12_body 352 = .ok (.ireturn, 1) := by decide +kernel
theorem dX12_bodyFrom_12 : decode cX12_bodyFrom 12 = .ok (.iload 4, 2) := by decide +kernel
theorem dX12_bodyFrom_14 : decode cX12_bodyFrom 14 = .ok (.invokestatic 348, 3) := by decide +kernel
theorem dX12_bodyFrom_17 : decode cX12_bodyFrom 17 = .ok (.istore 4, 2) := by decide +kernel
theorem dX12_bodyFrom_19 : decode cX12_bodyFrom 19 = .ok (.goto (-16), 3) := by decide +kernel
theorem dX12_dealt_0 : decode cX12_dealt 0 = .ok (.aload_n 0, 1) := by decide +kernel
theorem dX12_dealt_1 : decode cX12_dealt 1 = .ok (.aload_n 0, 1) := by decide +kernel
theorem dX12_dealt_2 : decode cX12_dealt 2 = .ok (.getfield 354, 3) := by decide +kernel
theorem m_1347 : Cond.fieldLink RX12 354 "InquiryBenchModel" "deale\x72" "I" ∈ BW := List.mem_of_getElem? (i := 1347) (by decide +kernel)
theorem gf_X12_354 (hC : CX p s m meth c y0 b0 mL0 rt0 args) (hy0 : y0.cls = RX12) (hK : KK G s) (hP : va_P G.1 vwCl ws H) (q0 : Nat) {fs : List Value} {v : Value} (he : ws[q0]? = some (a, .inr (12, fs))) (hv : fs[36]? = some v) (hdg : decode b0 pc = .ok (.getfield 354, 3)) (kk : W p l e R s m args below meth c H locs cells slots Q (F0 m (pc + 3) ls (v :: rest))) : W p l e R s m args below meth c H locs cells slots Q (F0 m pc ls (.ref a :: rest)) := by
  obtain ⟨hx, hb, hr, hml, hB, hown, hlocks, hnm⟩ := hC
  rw [hy0] at hown
  exact va_get (ci := 12) (C := RX12) (T := TX12) (N := 41) hx hb hB in_X12 hown hK.1 hP q0 he rfl 36 (by decide) (hB _ m_1347) (fun _ h => h) hv hdg kk
theorem dX12_dealt_5 : decode cX12_dealt 5 = .ok (.iload_n 1, 1) := by decide +kernel
theorem dX12_dealt_6 : decode cX12_dealt 6 = .ok (.iload_n 2, 1) := by decide +kernel
theorem dX12_dealt_7 : decode cX12_dealt 7 = .ok (.invokevirtual 357, 3) := by decide +kernel
theorem dX12_dealt_10 : decode cX12_dealt 10 = .ok (.ireturn, 1) := by decide +kernel
theorem dX12_body_125 : decode cX12_body 125 = .ok (.aload_n 0, 1) := by decide +kernel
theorem dX12_body_126 : decode cX12_body 126 = .ok (.bipush 11, 2) := by decide +kernel
theorem dX12_body_128 : decode cX12_body 128 = .ok (.invokevirtual 366, 3) := by decide +kernel
theorem dX12_body_131 : decode cX12_body 131 = .ok (.aload_n 0, 1) := by decide +kernel
theorem dX12_body_132 : decode cX12_body 132 = .ok (.iconst 0, 1) := by decide +kernel
theorem dX12_body_133 : decode cX12_body 133 = .ok (.iload_n 3, 1) := by decide +kernel
theorem dX12_body_134 : decode cX12_body 134 = .ok (.invokevirtual 372, 3) := by decide +kernel
theorem m_1355 : Cond.code yX12_dealt cX12_dealt 3 (some .int) ∈ BW := List.mem_of_getElem? (i := 1355) (by decide +kernel)
theorem m_1352 : Cond.methodLink RX12 372 yX12_dealt ∈ BW := List.mem_of_getElem? (i := 1352) (by decide +kernel)
theorem m_1353 : Cond.instanceMethod yX12_dealt ∈ BW := List.mem_of_getElem? (i := 1353) (by decide +kernel)
theorem m_1354 : Cond.selects RX12 yX12_dealt yX12_dealt ∈ BW := List.mem_of_getElem? (i := 1354) (by decide +kernel)
theorem si_X12_372 : SV RX12 RX12 372 yX12_dealt cX12_dealt 3 (some .int) 2 := ⟨⟨m_1352, m_1353, m_1354, m_5, m_1355⟩, rfl, by decide +kernel, by decide +kernel, by decide +kernel⟩
theorem dX12_body_137 : decode cX12_body 137 = .ok (.iconst 2, 1) := by decide +kernel
theorem dX12_body_138 : decode cX12_body 138 = .ok (.imul, 1) := by decide +kernel
theorem dX12_body_139 : decode cX12_body 139 = .ok (.ireturn, 1) := by decide +kernel
theorem dX12_body_207 : decode cX12_body 207 = .ok (.aload_n 0, 1) := by decide +kernel
theorem dX12_body_208 : decode cX12_body 208 = .ok (.bipush 20, 2) := by decide +kernel
theorem dX12_body_210 : decode cX12_body 210 = .ok (.invokevirtual 366, 3) := by decide +kernel
theorem dX12_body_213 : decode cX12_body 213 = .ok (.aload_n 0, 1) := by decide +kernel
theorem dX12_body_214 : decode cX12_body 214 = .ok (.iconst 0, 1) := by decide +kernel
theorem dX12_body_215 : decode cX12_body 215 = .ok (.iconst 1, 1) := by decide +kernel
theorem dX12_body_216 : decode cX12_body 216 = .ok (.iload_n 3, 1) := by decide +kernel
theorem dX12_body_217 : decode cX12_body 217 = .ok (.invokevirtual 357, 3) := by decide +kernel
theorem dX12_body_220 : decode cX12_body 220 = .ok (.aload_n 0, 1) := by decide +kernel
theorem dX12_body_221 : decode cX12_body 221 = .ok (.getfield 378, 3) := by decide +kernel
theorem dX12_body_224 : decode cX12_body 224 = .ok (.ixor, 1) := by decide +kernel
theorem dX12_body_225 : decode cX12_body 225 = .ok (.ireturn, 1) := by decide +kernel
theorem dX12_body_242 : decode cX12_body 242 = .ok (.aload_n 0, 1) := by decide +kernel
theorem dX12_body_243 : decode cX12_body 243 = .ok (.bipush 40, 2) := by decide +kernel
theorem dX12_body_245 : decode cX12_body 245 = .ok (.invokevirtual 366, 3) := by decide +kernel
theorem dX12_body_248 : decode cX12_body 248 = .ok (.iconst 0, 1) := by decide +kernel
theorem dX12_body_249 : decode cX12_body 249 = .ok (.aload_n 0, 1) := by decide +kernel
theorem dX12_body_250 : decode cX12_body 250 = .ok (.iconst 1, 1) := by decide +kernel
theorem dX12_body_251 : decode cX12_body 251 = .ok (.iconst 1, 1) := by decide +kernel
theorem dX12_body_252 : decode cX12_body 252 = .ok (.iload_n 3, 1) := by decide +kernel
theorem dX12_body_253 : decode cX12_body 253 = .ok (.invokevirtual 357, 3) := by decide +kernel
theorem dX12_body_256 : decode cX12_body 256 = .ok (.isub, 1) := by decide +kernel
theorem dX12_body_257 : decode cX12_body 257 = .ok (.ireturn, 1) := by decide +kernel
theorem dX12_body_140 : decode cX12_body 140 = .ok (.aload_n 0, 1) := by decide +kernel
theorem dX12_body_141 : decode cX12_body 141 = .ok (.bipush 12, 2) := by decide +kernel
theorem dX12_body_143 : decode cX12_body 143 = .ok (.invokevirtual 366, 3) := by decide +kernel
theorem dX12_body_146 : decode cX12_body 146 = .ok (.aload_n 0, 1) := by decide +kernel
theorem dX12_body_147 : decode cX12_body 147 = .ok (.iconst 1, 1) := by decide +kernel
theorem dX12_body_148 : decode cX12_body 148 = .ok (.iload_n 3, 1) := by decide +kernel
theorem dX12_body_149 : decode cX12_body 149 = .ok (.invokevirtual 372, 3) := by decide +kernel
theorem dX12_body_152 : decode cX12_body 152 = .ok (.aload_n 0, 1) := by decide +kernel
theorem dX12_body_153 : decode cX12_body 153 = .ok (.getfield 375, 3) := by decide +kernel
theorem dX12_body_156 : decode cX12_body 156 = .ok (.isub, 1) := by decide +kernel
theorem dX12_body_157 : decode cX12_body 157 = .ok (.ireturn, 1) := by decide +kernel
theorem dX12_body_226 : decode cX12_body 226 = .ok (.aload_n 0, 1) := by decide +kernel
theorem dX12_body_227 : decode cX12_body 227 = .ok (.bipush 30, 2) := by decide +kernel
theorem dX12_body_229 : decode cX12_body 229 = .ok (.invokevirtual 366, 3) := by decide +kernel
theorem dX12_body_232 : decode cX12_body 232 = .ok (.aload_n 0, 1) := by decide +kernel
theorem dX12_body_233 : decode cX12_body 233 = .ok (.iconst 0, 1) := by decide +kernel
theorem dX12_body_234 : decode cX12_body 234 = .ok (.iconst 2, 1) := by decide +kernel
theorem dX12_body_235 : decode cX12_body 235 = .ok (.iload_n 3, 1) := by decide +kernel
theorem dX12_body_236 : decode cX12_body 236 = .ok (.invokevirtual 357, 3) := by decide +kernel
theorem dX12_body_239 : decode cX12_body 239 = .ok (.iconst 3, 1) := by decide +kernel
theorem dX12_body_240 : decode cX12_body 240 = .ok (.imul, 1) := by decide +kernel
theorem dX12_body_241 : decode cX12_body 241 = .ok (.ireturn, 1) := by decide +kernel
theorem dX12_body_293 : decode cX12_body 293 = .ok (.aload_n 0, 1) := by decide +kernel
theorem dX12_body_294 : decode cX12_body 294 = .ok (.bipush 51, 2) := by decide +kernel
theorem dX12_body_296 : decode cX12_body 296 = .ok (.invokevirtual 366, 3) := by decide +kernel
theorem dX12_body_299 : decode cX12_body 299 = .ok (.aload_n 0, 1) := by decide +kernel
theorem dX12_body_300 : decode cX12_body 300 = .ok (.iconst 0, 1) := by decide +kernel
theorem dX12_body_301 : decode cX12_body 301 = .ok (.iconst 2, 1) := by decide +kernel
theorem dX12_body_302 : decode cX12_body 302 = .ok (.iload_n 3, 1) := by decide +kernel
theorem dX12_body_303 : decode cX12_body 303 = .ok (.invokevirtual 357, 3) := by decide +kernel
theorem dX12_body_306 : decode cX12_body 306 = .ok (.istore 4, 2) := by decide +kernel
theorem dX12_body_308 : decode cX12_body 308 = .ok (.iload 4, 2) := by decide +kernel
theorem dX12_body_310 : decode cX12_body 310 = .ok (.aload_n 0, 1) := by decide +kernel
theorem dX12_body_311 : decode cX12_body 311 = .ok (.iconst 1, 1) := by decide +kernel
theorem dX12_body_312 : decode cX12_body 312 = .ok (.iconst 1, 1) := by decide +kernel
theorem dX12_body_313 : decode cX12_body 313 = .ok (.invokevirtual 372, 3) := by decide +kernel
theorem dX12_body_316 : decode cX12_body 316 = .ok (.iadd, 1) := by decide +kernel
theorem dX12_body_317 : decode cX12_body 317 = .ok (.ireturn, 1) := by decide +kernel
theorem dX12_body_318 : decode cX12_body 318 = .ok (.aload_n 0, 1) := by decide +kernel
theorem dX12_body_319 : decode cX12_body 319 = .ok (.bipush 60, 2) := by decide +kernel
theorem dX12_body_321 : decode cX12_body 321 = .ok (.invokevirtual 366, 3) := by decide +kernel
theorem dX12_body_324 : decode cX12_body 324 = .ok (.aload_n 0, 1) := by decide +kernel
theorem dX12_body_325 : decode cX12_body 325 = .ok (.iconst 4, 1) := by decide +kernel
theorem dX12_body_326 : decode cX12_body 326 = .ok (.iconst 2, 1) := by decide +kernel
theorem dX12_body_327 : decode cX12_body 327 = .ok (.iload_n 3, 1) := by decide +kernel
theorem dX12_body_328 : decode cX12_body 328 = .ok (.invokevirtual 357, 3) := by decide +kernel
theorem dX12_body_331 : decode cX12_body 331 = .ok (.iconst 2, 1) := by decide +kernel
theorem dX12_body_332 : decode cX12_body 332 = .ok (.imul, 1) := by decide +kernel
theorem dX12_body_333 : decode cX12_body 333 = .ok (.ireturn, 1) := by decide +kernel
theorem dX12_body_158 : decode cX12_body 158 = .ok (.aload_n 0, 1) := by decide +kernel
theorem dX12_body_159 : decode cX12_body 159 = .ok (.bipush 13, 2) := by decide +kernel
theorem dX12_body_161 : decode cX12_body 161 = .ok (.invokevirtual 366, 3) := by decide +kernel
theorem dX12_body_164 : decode cX12_body 164 = .ok (.aload_n 0, 1) := by decide +kernel
theorem dX12_body_165 : decode cX12_body 165 = .ok (.aload_n 0, 1) := by decide +kernel
theorem dX12_body_166 : decode cX12_body 166 = .ok (.getfield 375, 3) := by decide +kernel
theorem dX12_body_169 : decode cX12_body 169 = .ok (.aload_n 0, 1) := by decide +kernel
theorem dX12_body_170 : decode cX12_body 170 = .ok (.getfield 378, 3) := by decide +kernel
theorem dX12_body_173 : decode cX12_body 173 = .ok (.if_icmp .ne 7, 3) := by decide +kernel
theorem dX12_body_180 : decode cX12_body 180 = .ok (.iconst 0, 1) := by decide +kernel
theorem dX12_body_181 : decode cX12_body 181 = .ok (.putfield 380, 3) := by decide +kernel
theorem m_1351 : Cond.fieldLink RX12 380 "InquiryBenchModel" "isParted" "Z" ∈ BW := List.mem_of_getElem? (i := 1351) (by decide +kernel)
theorem pf_X12_380 (hC : CX p s m meth c y0 b0 mL0 rt0 args) (hy0 : y0.cls = RX12) (hK : KK G s) (hP : va_P G.1 vwCl ws H) (hD : va_D A ws) (hS : va_S A H0 H locs) (q0 : Nat) {fs : List Value} {v : Value} {ws' : va_W} (he : ws[q0]? = some (a, .inr (12, fs))) (hl : 40 < fs.length) (hws : ws.set q0 (a, .inr (12, fs.set 40 v)) = ws') (hn : narrow .boolean v = v) (hfit : fits .boolean v = true) (hdg : decode b0 pc = .ok (.putfield 380, 3)) (kk : ∀ (H1 : Heap) (locs1 : List Loc), va_P G.1 vwCl ws' H1 → va_D A ws' → va_S A H0 H1 locs1 → W p l e R s m args below meth c H1 locs1 cells slots Q (F0 m (pc + 3) ls rest)) : W p l e R s m args below meth c H locs cells slots Q (F0 m pc ls (v :: .ref a :: rest)) := by
  obtain ⟨hx, hb, hr, hml, hB, hown, hlocks, hnm⟩ := hC
  rw [hy0] at hown
  subst hws
  exact va_put (ci := 12) (ty := .boolean) (C := RX12) (T := TX12) (N := 41) hx hb hB in_X12 tyX12 tyX12_ok nmX12 hown hK.1 hP hD hS q0 he rfl 40 (by decide) (hB _ m_1351) (fun _ h => h) rfl (by decide +kernel) hn hfit hl hdg kk
theorem dX12_body_184 : decode cX12_body 184 = .ok (.aload_n 0, 1) := by decide +kernel
theorem dX12_body_185 : decode cX12_body 185 = .ok (.getfield 380, 3) := by decide +kernel
theorem gf_X12_380 (hC : CX p s m meth c y0 b0 mL0 rt0 args) (hy0 : y0.cls = RX12) (hK : KK G s) (hP : va_P G.1 vwCl ws H) (q0 : Nat) {fs : List Value} {v : Value} (he : ws[q0]? = some (a, .inr (12, fs))) (hv : fs[40]? = some v) (hdg : decode b0 pc = .ok (.getfield 380, 3)) (kk : W p l e R s m args below meth c H locs cells slots Q (F0 m (pc + 3) ls (v :: rest))) : W p l e R s m args below meth c H locs cells slots Q (F0 m pc ls (.ref a :: rest)) := by
  obtain ⟨hx, hb, hr, hml, hB, hown, hlocks, hnm⟩ := hC
  rw [hy0] at hown
  exact va_get (ci := 12) (C := RX12) (T := TX12) (N := 41) hx hb hB in_X12 hown hK.1 hP q0 he rfl 40 (by decide) (hB _ m_1351) (fun _ h => h) hv hdg kk
theorem dX12_body_188 : decode cX12_body 188 = .ok (.ifCond .eq 7, 3) := by decide +kernel
theorem dX12_body_195 : decode cX12_body 195 = .ok (.iload_n 3, 1) := by decide +kernel
theorem dX12_body_196 : decode cX12_body 196 = .ok (.aload_n 0, 1) := by decide +kernel
theorem dX12_body_197 : decode cX12_body 197 = .ok (.getfield 375, 3) := by decide +kernel
theorem dX12_body_200 : decode cX12_body 200 = .ok (.aload_n 0, 1) := by decide +kernel
theorem dX12_body_201 : decode cX12_body 201 = .ok (.getfield 378, 3) := by decide +kernel
theorem dX12_body_204 : decode cX12_body 204 = .ok (.isub, 1) := by decide +kernel
theorem dX12_body_205 : decode cX12_body 205 = .ok (.idiv, 1) := by decide +kernel
theorem dX12_body_206 : decode cX12_body 206 = .ok (.ireturn, 1) := by decide +kernel
theorem dX12_body_176 : decode cX12_body 176 = .ok (.iconst 1, 1) := by decide +kernel
theorem dX12_body_177 : decode cX12_body 177 = .ok (.goto 4, 3) := by decide +kernel
theorem dX12_body_191 : decode cX12_body 191 = .ok (.iconst 0, 1) := by decide +kernel
theorem dX12_body_192 : decode cX12_body 192 = .ok (.goto 14, 3) := by decide +kernel
theorem dX12_body_258 : decode cX12_body 258 = .ok (.aload_n 0, 1) := by decide +kernel
theorem dX12_body_259 : decode cX12_body 259 = .ok (.bipush 41, 2) := by decide +kernel
theorem dX12_body_261 : decode cX12_body 261 = .ok (.invokevirtual 366, 3) := by decide +kernel
theorem dX12_body_264 : decode cX12_body 264 = .ok (.aload_n 0, 1) := by decide +kernel
theorem dX12_body_265 : decode cX12_body 265 = .ok (.iconst 1, 1) := by decide +kernel
theorem dX12_body_266 : decode cX12_body 266 = .ok (.iconst 3, 1) := by decide +kernel
theorem dX12_body_267 : decode cX12_body 267 = .ok (.iload_n 3, 1) := by decide +kernel
theorem dX12_body_268 : decode cX12_body 268 = .ok (.iconst 2, 1) := by decide +kernel
theorem dX12_body_269 : decode cX12_body 269 = .ok (.iadd, 1) := by decide +kernel
theorem dX12_body_270 : decode cX12_body 270 = .ok (.invokevirtual 357, 3) := by decide +kernel
theorem dX12_body_273 : decode cX12_body 273 = .ok (.ireturn, 1) := by decide +kernel
theorem dX12_body_353 : decode cX12_body 353 = .ok (.aload_n 0, 1) := by decide +kernel
theorem dX12_body_354 : decode cX12_body 354 = .ok (.bipush 70, 2) := by decide +kernel
theorem dX12_body_356 : decode cX12_body 356 = .ok (.invokevirtual 366, 3) := by decide +kernel
theorem dX12_body_359 : decode cX12_body 359 = .ok (.aload_n 0, 1) := by decide +kernel
theorem dX12_body_360 : decode cX12_body 360 = .ok (.iconst 0, 1) := by decide +kernel
theorem dX12_body_361 : decode cX12_body 361 = .ok (.iconst 3, 1) := by decide +kernel
theorem dX12_body_362 : decode cX12_body 362 = .ok (.iload_n 3, 1) := by decide +kernel
theorem dX12_body_363 : decode cX12_body 363 = .ok (.invokevirtual 357, 3) := by decide +kernel
theorem dX12_body_366 : decode cX12_body 366 = .ok (.istore 5, 2) := by decide +kernel
theorem dX12_body_368 : decode cX12_body 368 = .ok (.aload_n 0, 1) := by decide +kernel
theorem dX12_body_369 : decode cX12_body 369 = .ok (.getfield 380, 3) := by decide +kernel
theorem dX12_body_372 : decode cX12_body 372 = .ok (.ifCond .eq 7, 3) := by decide +kernel
theorem dX12_body_379 : decode cX12_body 379 = .ok (.iload 5, 2) := by decide +kernel
theorem dX12_body_381 : decode cX12_body 381 = .ok (.aload_n 0, 1) := by decide +kernel
theorem dX12_body_382 : decode cX12_body 382 = .ok (.iconst 0, 1) := by decide +kernel
theorem dX12_body_383 : decode cX12_body 383 = .ok (.aload_n 0, 1) := by decide +kernel
theorem dX12_body_384 : decode cX12_body 384 = .ok (.getfield 378, 3) := by decide +kernel
theorem dX12_body_387 : decode cX12_body 387 = .ok (.invokevirtual 372, 3) := by decide +kernel
theorem dX12_body_390 : decode cX12_body 390 = .ok (.isub, 1) := by decide +kernel
theorem dX12_body_391 : decode cX12_body 391 = .ok (.ireturn, 1) := by decide +kernel
theorem dX12_body_375 : decode cX12_body 375 = .ok (.iconst 0, 1) := by decide +kernel
theorem dX12_body_376 : decode cX12_body 376 = .ok (.goto 15, 3) := by decide +kernel
theorem dX12_deal_0 : decode cX12_deal 0 = .ok (.aload_n 0, 1) := by decide +kernel
theorem dX12_deal_1 : decode cX12_deal 1 = .ok (.iconst 0, 1) := by decide +kernel
theorem dX12_deal_2 : decode cX12_deal 2 = .ok (.putfield 351, 3) := by decide +kernel
theorem dX12_deal_5 : decode cX12_deal 5 = .ok (.iload_n 1, 1) := by decide +kernel
theorem dX12_deal_6 : decode cX12_deal 6 = .ok (.invokestatic 336, 3) := by decide +kernel
theorem dX12_deal_9 : decode cX12_deal 9 = .ok (.ifCond .eq 10, 3) := by decide +kernel
theorem dX12_deal_12 : decode cX12_deal 12 = .ok (.iload_n 2, 1) := by decide +kernel
theorem dX12_deal_13 : decode cX12_deal 13 = .ok (.invokestatic 336, 3) := by decide +kernel
theorem dX12_deal_16 : decode cX12_deal 16 = .ok (.ifCond .ne 7, 3) := by decide +kernel
theorem dX12_deal_23 : decode cX12_deal 23 = .ok (.aload_n 0, 1) := by decide +kernel
theorem dX12_deal_24 : decode cX12_deal 24 = .ok (.iload_n 1, 1) := by decide +kernel
theorem dX12_deal_25 : decode cX12_deal 25 = .ok (.invokevirtual 345, 3) := by decide +kernel
theorem dX12_deal_28 : decode cX12_deal 28 = .ok (.istore 4, 2) := by decide +kernel
theorem dX12_deal_30 : decode cX12_deal 30 = .ok (.iload 4, 2) := by decide +kernel
theorem dX12_deal_32 : decode cX12_deal 32 = .ok (.ifCond .ge 5, 3) := by decide +kernel
theorem dX12_deal_35 : decode cX12_deal 35 = .ok (.iconst 0, 1) := by decide +kernel
theorem dX12_deal_36 : decode cX12_deal 36 = .ok (.ireturn, 1) := by decide +kernel
theorem dX12_deal_37 : decode cX12_deal 37 = .ok (.aload_n 0, 1) := by decide +kernel
theorem dX12_deal_38 : decode cX12_deal 38 = .ok (.iload 4, 2) := by decide +kernel
theorem dX12_deal_40 : decode cX12_deal 40 = .ok (.putfield 354, 3) := by decide +kernel
theorem pf_X12_354 (hC : CX p s m meth c y0 b0 mL0 rt0 args) (hy0 : y0.cls = RX12) (hK : KK G s) (hP : va_P G.1 vwCl ws H) (hD : va_D A ws) (hS : va_S A H0 H locs) (q0 : Nat) {fs : List Value} {v : Value} {ws' : va_W} (he : ws[q0]? = some (a, .inr (12, fs))) (hl : 36 < fs.length) (hws : ws.set q0 (a, .inr (12, fs.set 36 v)) = ws') (hn : narrow .int v = v) (hfit : fits .int v = true) (hdg : decode b0 pc = .ok (.putfield 354, 3)) (kk : ∀ (H1 : Heap) (locs1 : List Loc), va_P G.1 vwCl ws' H1 → va_D A ws' → va_S A H0 H1 locs1 → W p l e R s m args below meth c H1 locs1 cells slots Q (F0 m (pc + 3) ls rest)) : W p l e R s m args below meth c H locs cells slots Q (F0 m pc ls (v :: .ref a :: rest)) := by
  obtain ⟨hx, hb, hr, hml, hB, hown, hlocks, hnm⟩ := hC
  rw [hy0] at hown
  subst hws
  exact va_put (ci := 12) (ty := .int) (C := RX12) (T := TX12) (N := 41) hx hb hB in_X12 tyX12 tyX12_ok nmX12 hown hK.1 hP hD hS q0 he rfl 36 (by decide) (hB _ m_1347) (fun _ h => h) rfl (by decide +kernel) hn hfit hl hdg kk
theorem dX12_deal_43 : decode cX12_deal 43 = .ok (.aload_n 0, 1) := by decide +kernel
theorem dX12_deal_44 : decode cX12_deal 44 = .ok (.aload_n 0, 1) := by decide +kernel
theorem dX12_deal_45 : decode cX12_deal 45 = .ok (.getfield 75, 3) := by decide +kernel
theorem dX12_deal_48 : decode cX12_deal 48 = .ok (.iload_n 1, 1) := by decide +kernel
theorem dX12_deal_49 : decode cX12_deal 49 = .ok (.iaload, 1) := by decide +kernel
theorem dX12_deal_50 : decode cX12_deal 50 = .ok (.putfield 378, 3) := by decide +kernel
theorem pf_X12_378 (hC : CX p s m meth c y0 b0 mL0 rt0 args) (hy0 : y0.cls = RX12) (hK : KK G s) (hP : va_P G.1 vwCl ws H) (hD : va_D A ws) (hS : va_S A H0 H locs) (q0 : Nat) {fs : List Value} {v : Value} {ws' : va_W} (he : ws[q0]? = some (a, .inr (12, fs))) (hl : 37 < fs.length) (hws : ws.set q0 (a, .inr (12, fs.set 37 v)) = ws') (hn : narrow .int v = v) (hfit : fits .int v = true) (hdg : decode b0 pc = .ok (.putfield 378, 3)) (kk : ∀ (H1 : Heap) (locs1 : List Loc), va_P G.1 vwCl ws' H1 → va_D A ws' → va_S A H0 H1 locs1 → W p l e R s m args below meth c H1 locs1 cells slots Q (F0 m (pc + 3) ls rest)) : W p l e R s m args below meth c H locs cells slots Q (F0 m pc ls (v :: .ref a :: rest)) := by
  obtain ⟨hx, hb, hr, hml, hB, hown, hlocks, hnm⟩ := hC
  rw [hy0] at hown
  subst hws
  exact va_put (ci := 12) (ty := .int) (C := RX12) (T := TX12) (N := 41) hx hb hB in_X12 tyX12 tyX12_ok nmX12 hown hK.1 hP hD hS q0 he rfl 37 (by decide) (hB _ m_1348) (fun _ h => h) rfl (by decide +kernel) hn hfit hl hdg kk
theorem dX12_deal_53 : decode cX12_deal 53 = .ok (.aload_n 0, 1) := by decide +kernel
theorem dX12_deal_54 : decode cX12_deal 54 = .ok (.getfield 72, 3) := by decide +kernel
theorem dX12_deal_57 : decode cX12_deal 57 = .ok (.iload_n 1, 1) := by decide +kernel
theorem dX12_deal_58 : decode cX12_deal 58 = .ok (.iaload, 1) := by decide +kernel
theorem dX12_deal_59 : decode cX12_deal 59 = .ok (.iconst 1, 1) := by decide +kernel
theorem dX12_deal_60 : decode cX12_deal 60 = .ok (.if_icmp .ne 7, 3) := by decide +kernel
theorem dX12_deal_63 : decode cX12_deal 63 = .ok (.iconst 1, 1) := by decide +kernel
theorem dX12_deal_64 : decode cX12_deal 64 = .ok (.goto 4, 3) := by decide +kernel
theorem dX12_deal_68 : decode cX12_deal 68 = .ok (.istore 5, 2) := by decide +kernel
theorem dX12_deal_70 : decode cX12_deal 70 = .ok (.aload_n 0, 1) := by decide +kernel
theorem dX12_deal_71 : decode cX12_deal 71 = .ok (.getfield 72, 3) := by decide +kernel
theorem dX12_deal_74 : decode cX12_deal 74 = .ok (.iload_n 1, 1) := by decide +kernel
theorem dX12_deal_75 : decode cX12_deal 75 = .ok (.iaload, 1) := by decide +kernel
theorem dX12_deal_76 : decode cX12_deal 76 = .ok (.iconst 2, 1) := by decide +kernel
theorem dX12_deal_77 : decode cX12_deal 77 = .ok (.if_icmp .ne 7, 3) := by decide +kernel
theorem dX12_deal_84 : decode cX12_deal 84 = .ok (.iconst 0, 1) := by decide +kernel
theorem dX12_deal_85 : decode cX12_deal 85 = .ok (.istore 6, 2) := by decide +kernel
theorem dX12_deal_87 : decode cX12_deal 87 = .ok (.aload_n 0, 1) := by decide +kernel
theorem dX12_deal_88 : decode cX12_deal 88 = .ok (.iload 5, 2) := by decide +kernel
theorem dX12_deal_90 : decode cX12_deal 90 = .ok (.ifCond .eq 15, 3) := by decide +kernel
theorem dX12_deal_93 : decode cX12_deal 93 = .ok (.aload_n 0, 1) := by decide +kernel
theorem dX12_deal_94 : decode cX12_deal 94 = .ok (.aload_n 0, 1) := by decide +kernel
theorem dX12_deal_95 : decode cX12_deal 95 = .ok (.getfield 378, 3) := by decide +kernel
theorem dX12_deal_98 : decode cX12_deal 98 = .ok (.iconst 0, 1) := by decide +kernel
theorem dX12_deal_99 : decode cX12_deal 99 = .ok (.invokevirtual 88, 3) := by decide +kernel
theorem dX12_deal_102 : decode cX12_deal 102 = .ok (.goto 37, 3) := by decide +kernel
theorem dX12_deal_139 : decode cX12_deal 139 = .ok (.putfield 375, 3) := by decide +kernel
theorem pf_X12_375 (hC : CX p s m meth c y0 b0 mL0 rt0 args) (hy0 : y0.cls = RX12) (hK : KK G s) (hP : va_P G.1 vwCl ws H) (hD : va_D A ws) (hS : va_S A H0 H locs) (q0 : Nat) {fs : List Value} {v : Value} {ws' : va_W} (he : ws[q0]? = some (a, .inr (12, fs))) (hl : 38 < fs.length) (hws : ws.set q0 (a, .inr (12, fs.set 38 v)) = ws') (hn : narrow .int v = v) (hfit : fits .int v = true) (hdg : decode b0 pc = .ok (.putfield 375, 3)) (kk : ∀ (H1 : Heap) (locs1 : List Loc), va_P G.1 vwCl ws' H1 → va_D A ws' → va_S A H0 H1 locs1 → W p l e R s m args below meth c H1 locs1 cells slots Q (F0 m (pc + 3) ls rest)) : W p l e R s m args below meth c H locs cells slots Q (F0 m pc ls (v :: .ref a :: rest)) := by
  obtain ⟨hx, hb, hr, hml, hB, hown, hlocks, hnm⟩ := hC
  rw [hy0] at hown
  subst hws
  exact va_put (ci := 12) (ty := .int) (C := RX12) (T := TX12) (N := 41) hx hb hB in_X12 tyX12 tyX12_ok nmX12 hown hK.1 hP hD hS q0 he rfl 38 (by decide) (hB _ m_1349) (fun _ h => h) rfl (by decide +kernel) hn hfit hl hdg kk
theorem dX12_deal_142 : decode cX12_deal 142 = .ok (.aload_n 0, 1) := by decide +kernel
theorem dX12_deal_143 : decode cX12_deal 143 = .ok (.iload 5, 2) := by decide +kernel
theorem dX12_deal_145 : decode cX12_deal 145 = .ok (.ifCond .eq 15, 3) := by decide +kernel
theorem dX12_deal_148 : decode cX12_deal 148 = .ok (.aload_n 0, 1) := by decide +kernel
theorem dX12_deal_149 : decode cX12_deal 149 = .ok (.aload_n 0, 1) := by decide +kernel
theorem dX12_deal_150 : decode cX12_deal 150 = .ok (.getfield 378, 3) := by decide +kernel
theorem dX12_deal_153 : decode cX12_deal 153 = .ok (.iconst 2, 1) := by decide +kernel
theorem dX12_deal_154 : decode cX12_deal 154 = .ok (.invokevirtual 88, 3) := by decide +kernel
theorem dX12_deal_157 : decode cX12_deal 157 = .ok (.goto 37, 3) := by decide +kernel
theorem dX12_deal_194 : decode cX12_deal 194 = .ok (.putfield 369, 3) := by decide +kernel
theorem pf_X12_369 (hC : CX p s m meth c y0 b0 mL0 rt0 args) (hy0 : y0.cls = RX12) (hK : KK G s) (hP : va_P G.1 vwCl ws H) (hD : va_D A ws) (hS : va_S A H0 H locs) (q0 : Nat) {fs : List Value} {v : Value} {ws' : va_W} (he : ws[q0]? = some (a, .inr (12, fs))) (hl : 39 < fs.length) (hws : ws.set q0 (a, .inr (12, fs.set 39 v)) = ws') (hn : narrow .int v = v) (hfit : fits .int v = true) (hdg : decode b0 pc = .ok (.putfield 369, 3)) (kk : ∀ (H1 : Heap) (locs1 : List Loc), va_P G.1 vwCl ws' H1 → va_D A ws' → va_S A H0 H1 locs1 → W p l e R s m args below meth c H1 locs1 cells slots Q (F0 m (pc + 3) ls rest)) : W p l e R s m args below meth c H locs cells slots Q (F0 m pc ls (v :: .ref a :: rest)) := by
  obtain ⟨hx, hb, hr, hml, hB, hown, hlocks, hnm⟩ := hC
  rw [hy0] at hown
  subst hws
  exact va_put (ci := 12) (ty := .int) (C := RX12) (T := TX12) (N := 41) hx hb hB in_X12 tyX12 tyX12_ok nmX12 hown hK.1 hP hD hS q0 he rfl 39 (by decide) (hB _ m_1350) (fun _ h => h) rfl (by decide +kernel) hn hfit hl hdg kk
theorem dX12_deal_197 : decode cX12_deal 197 = .ok (.aload_n 0, 1) := by decide +kernel
theorem dX12_deal_198 : decode cX12_deal 198 = .ok (.iconst 0, 1) := by decide +kernel
theorem dX12_deal_199 : decode cX12_deal 199 = .ok (.putfield 380, 3) := by decide +kernel
theorem dX12_deal_202 : decode cX12_deal 202 = .ok (.aload_n 0, 1) := by decide +kernel
theorem dX12_deal_203 : decode cX12_deal 203 = .ok (.iload_n 2, 1) := by decide +kernel
theorem dX12_deal_204 : decode cX12_deal 204 = .ok (.iload_n 3, 1) := by decide +kernel
theorem dX12_deal_205 : decode cX12_deal 205 = .ok (.invokevirtual 372, 3) := by decide +kernel
theorem dX12_deal_208 : decode cX12_deal 208 = .ok (.istore 7, 2) := by decide +kernel
theorem dX12_deal_210 : decode cX12_deal 210 = .ok (.aload_n 0, 1) := by decide +kernel
theorem dX12_deal_211 : decode cX12_deal 211 = .ok (.getfield 380, 3) := by decide +kernel
theorem dX12_deal_214 : decode cX12_deal 214 = .ok (.ifCond .eq 8, 3) := by decide +kernel
theorem dX12_deal_222 : decode cX12_deal 222 = .ok (.iload 7, 2) := by decide +kernel
theorem dX12_deal_224 : decode cX12_deal 224 = .ok (.ireturn, 1) := by decide +kernel
theorem dX12_deal_217 : decode cX12_deal 217 = .ok (.bipush (-15), 2) := by decide +kernel
theorem dX12_deal_219 : decode cX12_deal 219 = .ok (.goto 5, 3) := by decide +kernel
theorem dX12_deal_67 : decode cX12_deal 67 = .ok (.iconst 0, 1) := by decide +kernel
theorem dX12_deal_80 : decode cX12_deal 80 = .ok (.iconst 1, 1) := by decide +kernel
theorem dX12_deal_81 : decode cX12_deal 81 = .ok (.goto 4, 3) := by decide +kernel
theorem dX12_deal_105 : decode cX12_deal 105 = .ok (.iload 6, 2) := by decide +kernel
theorem dX12_deal_107 : decode cX12_deal 107 = .ok (.ifCond .eq 15, 3) := by decide +kernel
theorem dX12_deal_110 : decode cX12_deal 110 = .ok (.aload_n 0, 1) := by decide +kernel
theorem dX12_deal_111 : decode cX12_deal 111 = .ok (.aload_n 0, 1) := by decide +kernel
theorem dX12_deal_112 : decode cX12_deal 112 = .ok (.getfield 378, 3) := by decide +kernel
theorem dX12_deal_115 : decode cX12_deal 115 = .ok (.iconst 0, 1) := by decide +kernel
theorem dX12_deal_116 : decode cX12_deal 116 = .ok (.invokevirtual 114, 3) := by decide +kernel
theorem dX12_deal_119 : decode cX12_deal 119 = .ok (.goto 20, 3) := by decide +kernel
theorem dX12_deal_160 : decode cX12_deal 160 = .ok (.iload 6, 2) := by decide +kernel
theorem dX12_deal_162 : decode cX12_deal 162 = .ok (.ifCond .eq 15, 3) := by decide +kernel
theorem dX12_deal_165 : decode cX12_deal 165 = .ok (.aload_n 0, 1) := by decide +kernel
theorem dX12_deal_166 : decode cX12_deal 166 = .ok (.aload_n 0, 1) := by decide +kernel
theorem dX12_deal_167 : decode cX12_deal 167 = .ok (.getfield 378, 3) := by decide +kernel
theorem dX12_deal_170 : decode cX12_deal 170 = .ok (.iconst 4, 1) := by decide +kernel
theorem dX12_deal_171 : decode cX12_deal 171 = .ok (.invokevirtual 114, 3) := by decide +kernel
theorem dX12_deal_174 : decode cX12_deal 174 = .ok (.goto 20, 3) := by decide +kernel
theorem dX12_deal_122 : decode cX12_deal 122 = .ok (.aload_n 0, 1) := by decide +kernel
theorem dX12_deal_123 : decode cX12_deal 123 = .ok (.getfield 9, 3) := by decide +kernel
theorem dX12_deal_126 : decode cX12_deal 126 = .ok (.sipush 1552, 3) := by decide +kernel
theorem dX12_deal_129 : decode cX12_deal 129 = .ok (.iconst 4, 1) := by decide +kernel
theorem dX12_deal_130 : decode cX12_deal 130 = .ok (.aload_n 0, 1) := by decide +kernel
theorem dX12_deal_131 : decode cX12_deal 131 = .ok (.getfield 378, 3) := by decide +kernel
theorem dX12_deal_134 : decode cX12_deal 134 = .ok (.imul, 1) := by decide +kernel
theorem dX12_deal_135 : decode cX12_deal 135 = .ok (.iadd, 1) := by decide +kernel
theorem dX12_deal_136 : decode cX12_deal 136 = .ok (.iconst 0, 1) := by decide +kernel
theorem dX12_deal_137 : decode cX12_deal 137 = .ok (.iadd, 1) := by decide +kernel
theorem dX12_deal_138 : decode cX12_deal 138 = .ok (.iaload, 1) := by decide +kernel
theorem dX12_deal_177 : decode cX12_deal 177 = .ok (.aload_n 0, 1) := by decide +kernel
theorem dX12_deal_178 : decode cX12_deal 178 = .ok (.getfield 9, 3) := by decide +kernel
theorem dX12_deal_181 : decode cX12_deal 181 = .ok (.sipush 1552, 3) := by decide +kernel
theorem dX12_deal_184 : decode cX12_deal 184 = .ok (.iconst 4, 1) := by decide +kernel
theorem dX12_deal_185 : decode cX12_deal 185 = .ok (.aload_n 0, 1) := by decide +kernel
theorem dX12_deal_186 : decode cX12_deal 186 = .ok (.getfield 378, 3) := by decide +kernel
theorem dX12_deal_189 : decode cX12_deal 189 = .ok (.imul, 1) := by decide +kernel
theorem dX12_deal_190 : decode cX12_deal 190 = .ok (.iadd, 1) := by decide +kernel
theorem dX12_deal_191 : decode cX12_deal 191 = .ok (.iconst 2, 1) := by decide +kernel
theorem dX12_deal_192 : decode cX12_deal 192 = .ok (.iadd, 1) := by decide +kernel
theorem dX12_deal_193 : decode cX12_deal 193 = .ok (.iaload, 1) := by decide +kernel
theorem dX12_deal_19 : decode cX12_deal 19 = .ok (.iconst (-1), 1) := by decide +kernel
theorem dX12_deal_20 : decode cX12_deal 20 = .ok (.goto 8, 3) := by decide +kernel
theorem dX12_trace_0 : decode cX12_trace 0 = .ok (.iload_n 1, 1) := by decide +kernel
theorem dX12_trace_1 : decode cX12_trace 1 = .ok (.iconst 0, 1) := by decide +kernel
theorem dX12_trace_2 : decode cX12_trace 2 = .ok (.aload_n 0, 1) := by decide +kernel
theorem dX12_trace_3 : decode cX12_trace 3 = .ok (.getfield 351, 3) := by decide +kernel
theorem dX12_trace_6 : decode cX12_trace 6 = .ok (.iconst 1, 1) := by decide +kernel
theorem dX12_trace_7 : decode cX12_trace 7 = .ok (.isub, 1) := by decide +kernel
theorem dX12_trace_8 : decode cX12_trace 8 = .ok (.invokestatic 84, 3) := by decide +kernel
theorem dX12_trace_11 : decode cX12_trace 11 = .ok (.ifCond .eq 12, 3) := by decide +kernel
theorem dX12_trace_14 : decode cX12_trace 14 = .ok (.aload_n 0, 1) := by decide +kernel
theorem dX12_trace_15 : decode cX12_trace 15 = .ok (.getfield 81, 3) := by decide +kernel
theorem dX12_trace_18 : decode cX12_trace 18 = .ok (.iload_n 1, 1) := by decide +kernel
theorem dX12_trace_19 : decode cX12_trace 19 = .ok (.iaload, 1) := by decide +kernel
theorem dX12_trace_20 : decode cX12_trace 20 = .ok (.goto 5, 3) := by decide +kernel
theorem dX12_trace_25 : decode cX12_trace 25 = .ok (.ireturn, 1) := by decide +kernel
theorem dX12_trace_23 : decode cX12_trace 23 = .ok (.bipush (-3), 2) := by decide +kernel
theorem dX12_many_0 : decode cX12_many 0 = .ok (.iload_n 1, 1) := by decide +kernel
theorem dX12_many_1 : decode cX12_many 1 = .ok (.tableswitch 212 0 14 #[75, 82, 89, 96, 104, 112, 120, 128, 134, 142, 181, 189, 197, 202, 207], 75) := by decide +kernel
theorem dX12_many_76 : decode cX12_many 76 = .ok (.aload_n 0, 1) := by decide +kernel
theorem dX12_many_77 : decode cX12_many 77 = .ok (.getfield 9, 3) := by decide +kernel
theorem dX12_many_80 : decode cX12_many 80 = .ok (.iconst 0, 1) := by decide +kernel
theorem dX12_many_81 : decode cX12_many 81 = .ok (.iaload, 1) := by decide +kernel
theorem dX12_many_82 : decode cX12_many 82 = .ok (.ireturn, 1) := by decide +kernel
theorem dX12_many_83 : decode cX12_many 83 = .ok (.aload_n 0, 1) := by decide +kernel
theorem dX12_many_84 : decode cX12_many 84 = .ok (.getfield 9, 3) := by decide +kernel
theorem dX12_many_87 : decode cX12_many 87 = .ok (.iconst 4, 1) := by decide +kernel
theorem dX12_many_88 : decode cX12_many 88 = .ok (.iaload, 1) := by decide +kernel
theorem dX12_many_89 : decode cX12_many 89 = .ok (.ireturn, 1) := by decide +kernel
theorem dX12_many_90 : decode cX12_many 90 = .ok (.aload_n 0, 1) := by decide +kernel
theorem dX12_many_91 : decode cX12_many 91 = .ok (.getfield 9, 3) := by decide +kernel
theorem dX12_many_94 : decode cX12_many 94 = .ok (.iconst 5, 1) := by decide +kernel
theorem dX12_many_95 : decode cX12_many 95 = .ok (.iaload, 1) := by decide +kernel
theorem dX12_many_96 : decode cX12_many 96 = .ok (.ireturn, 1) := by decide +kernel
theorem dX12_many_97 : decode cX12_many 97 = .ok (.aload_n 0, 1) := by decide +kernel
theorem dX12_many_98 : decode cX12_many 98 = .ok (.invokevirtual 107, 3) := by decide +kernel
theorem dX12_many_101 : decode cX12_many 101 = .ok (.invokestatic 110, 3) := by decide +kernel
theorem dX12_many_104 : decode cX12_many 104 = .ok (.ireturn, 1) := by decide +kernel
theorem dX12_many_105 : decode cX12_many 105 = .ok (.aload_n 0, 1) := by decide +kernel
theorem dX12_many_106 : decode cX12_many 106 = .ok (.getfield 9, 3) := by decide +kernel
theorem dX12_many_109 : decode cX12_many 109 = .ok (.bipush 6, 2) := by decide +kernel
theorem dX12_many_111 : decode cX12_many 111 = .ok (.iaload, 1) := by decide +kernel
theorem dX12_many_112 : decode cX12_many 112 = .ok (.ireturn, 1) := by decide +kernel
theorem dX12_many_113 : decode cX12_many 113 = .ok (.aload_n 0, 1) := by decide +kernel
theorem dX12_many_114 : decode cX12_many 114 = .ok (.getfield 9, 3) := by decide +kernel
theorem dX12_many_117 : decode cX12_many 117 = .ok (.bipush 7, 2) := by decide +kernel
theorem dX12_many_119 : decode cX12_many 119 = .ok (.iaload, 1) := by decide +kernel
theorem dX12_many_120 : decode cX12_many 120 = .ok (.ireturn, 1) := by decide +kernel
theorem dX12_many_121 : decode cX12_many 121 = .ok (.aload_n 0, 1) := by decide +kernel
theorem dX12_many_122 : decode cX12_many 122 = .ok (.getfield 9, 3) := by decide +kernel
theorem dX12_many_125 : decode cX12_many 125 = .ok (.bipush 8, 2) := by decide +kernel
theorem dX12_many_127 : decode cX12_many 127 = .ok (.iaload, 1) := by decide +kernel
theorem dX12_many_128 : decode cX12_many 128 = .ok (.ireturn, 1) := by decide +kernel
theorem dX12_many_129 : decode cX12_many 129 = .ok (.aload_n 0, 1) := by decide +kernel
theorem dX12_many_130 : decode cX12_many 130 = .ok (.iconst (-1), 1) := by decide +kernel
theorem dX12_many_131 : decode cX12_many 131 = .ok (.invokevirtual 127, 3) := by decide +kernel
theorem dX12_many_134 : decode cX12_many 134 = .ok (.ireturn, 1) := by decide +kernel
theorem dX12_many_135 : decode cX12_many 135 = .ok (.aload_n 0, 1) := by decide +kernel
theorem dX12_many_136 : decode cX12_many 136 = .ok (.getfield 9, 3) := by decide +kernel
theorem dX12_many_139 : decode cX12_many 139 = .ok (.bipush 9, 2) := by decide +kernel
theorem dX12_many_141 : decode cX12_many 141 = .ok (.iaload, 1) := by decide +kernel
theorem dX12_many_142 : decode cX12_many 142 = .ok (.ireturn, 1) := by decide +kernel
theorem dX12_many_143 : decode cX12_many 143 = .ok (.iconst 0, 1) := by decide +kernel
theorem dX12_many_144 : decode cX12_many 144 = .ok (.istore_n 2, 1) := by decide +kernel
theorem dX12_many_145 : decode cX12_many 145 = .ok (.iconst 0, 1) := by decide +kernel
theorem dX12_many_146 : decode cX12_many 146 = .ok (.istore_n 3, 1) := by decide +kernel
theorem dX12_many_147 : decode cX12_many 147 = .ok (.iload_n 3, 1) := by decide +kernel
theorem dX12_many_148 : decode cX12_many 148 = .ok (.aload_n 0, 1) := by decide +kernel
theorem dX12_many_149 : decode cX12_many 149 = .ok (.getfield 9, 3) := by decide +kernel
theorem dX12_many_152 : decode cX12_many 152 = .ok (.bipush 9, 2) := by decide +kernel
theorem dX12_many_154 : decode cX12_many 154 = .ok (.iaload, 1) := by decide +kernel
theorem dX12_many_155 : decode cX12_many 155 = .ok (.if_icmp .ge 25, 3) := by decide +kernel
theorem dX12_many_180 : decode cX12_many 180 = .ok (.iload_n 2, 1) := by decide +kernel
theorem dX12_many_181 : decode cX12_many 181 = .ok (.ireturn, 1) := by decide +kernel
theorem dX12_many_158 : decode cX12_many 158 = .ok (.iload_n 2, 1) := by decide +kernel
theorem dX12_many_159 : decode cX12_many 159 = .ok (.aload_n 0, 1) := by decide +kernel
theorem dX12_many_160 : decode cX12_many 160 = .ok (.iload_n 3, 1) := by decide +kernel
theorem dX12_many_161 : decode cX12_many 161 = .ok (.invokevirtual 305, 3) := by decide +kernel
theorem dX12_many_164 : decode cX12_many 164 = .ok (.ifCond .eq 7, 3) := by decide +kernel
theorem dX12_many_167 : decode cX12_many 167 = .ok (.iconst 1, 1) := by decide +kernel
theorem dX12_many_168 : decode cX12_many 168 = .ok (.goto 4, 3) := by decide +kernel
theorem dX12_many_172 : decode cX12_many 172 = .ok (.iadd, 1) := by decide +kernel
theorem dX12_many_173 : decode cX12_many 173 = .ok (.istore_n 2, 1) := by decide +kernel
theorem dX12_many_174 : decode cX12_many 174 = .ok (.iinc 3 1, 3) := by decide +kernel
theorem dX12_many_177 : decode cX12_many 177 = .ok (.goto (-30), 3) := by decide +kernel
theorem dX12_many_171 : decode cX12_many 171 = .ok (.iconst 0, 1) := by decide +kernel
theorem dX12_many_182 : decode cX12_many 182 = .ok (.aload_n 0, 1) := by decide +kernel
theorem dX12_many_183 : decode cX12_many 183 = .ok (.getfield 9, 3) := by decide +kernel
theorem dX12_many_186 : decode cX12_many 186 = .ok (.bipush 10, 2) := by decide +kernel
theorem dX12_many_188 : decode cX12_many 188 = .ok (.iaload, 1) := by decide +kernel
theorem dX12_many_189 : decode cX12_many 189 = .ok (.ireturn, 1) := by decide +kernel
theorem dX12_many_190 : decode cX12_many 190 = .ok (.aload_n 0, 1) := by decide +kernel
theorem dX12_many_191 : decode cX12_many 191 = .ok (.getfield 9, 3) := by decide +kernel
theorem dX12_many_194 : decode cX12_many 194 = .ok (.bipush 11, 2) := by decide +kernel
theorem dX12_many_196 : decode cX12_many 196 = .ok (.iaload, 1) := by decide +kernel
theorem dX12_many_197 : decode cX12_many 197 = .ok (.ireturn, 1) := by decide +kernel
theorem dX12_many_198 : decode cX12_many 198 = .ok (.aload_n 0, 1) := by decide +kernel
theorem dX12_many_199 : decode cX12_many 199 = .ok (.getfield 327, 3) := by decide +kernel
theorem dX12_many_202 : decode cX12_many 202 = .ok (.ireturn, 1) := by decide +kernel
theorem dX12_many_203 : decode cX12_many 203 = .ok (.aload_n 0, 1) := by decide +kernel
theorem dX12_many_204 : decode cX12_many 204 = .ok (.getfield 206, 3) := by decide +kernel
theorem m_750 : Cond.fieldLink RX12 206 "InquiryBenchModel" "taped" "I" ∈ BW := List.mem_of_getElem? (i := 750) (by decide +kernel)
theorem gf_X12_206 (hC : CX p s m meth c y0 b0 mL0 rt0 args) (hy0 : y0.cls = RX12) (hK : KK G s) (hP : va_P G.1 vwCl ws H) (q0 : Nat) {fs : List Value} {v : Value} (he : ws[q0]? = some (a, .inr (12, fs))) (hv : fs[4]? = some v) (hdg : decode b0 pc = .ok (.getfield 206, 3)) (kk : W p l e R s m args below meth c H locs cells slots Q (F0 m (pc + 3) ls (v :: rest))) : W p l e R s m args below meth c H locs cells slots Q (F0 m pc ls (.ref a :: rest)) := by
  obtain ⟨hx, hb, hr, hml, hB, hown, hlocks, hnm⟩ := hC
  rw [hy0] at hown
  exact va_get (ci := 12) (C := RX12) (T := TX12) (N := 41) hx hb hB in_X12 hown hK.1 hP q0 he rfl 4 (by decide) (hB _ m_750) (fun _ h => h) hv hdg kk
theorem dX12_many_207 : decode cX12_many 207 = .ok (.ireturn, 1) := by decide +kernel
theorem dX12_many_208 : decode cX12_many 208 = .ok (.aload_n 0, 1) := by decide +kernel
theorem dX12_many_209 : decode cX12_many 209 = .ok (.getfield 351, 3) := by decide +kernel
theorem dX12_many_212 : decode cX12_many 212 = .ok (.ireturn, 1) := by decide +kernel
theorem dX12_many_213 : decode cX12_many 213 = .ok (.iconst (-1), 1) := by decide +kernel
theorem dX12_many_214 : decode cX12_many 214 = .ok (.ireturn, 1) := by decide +kernel
theorem dX12_keep_0 : decode cX12_keep 0 = .ok (.iconst 0, 1) := by decide +kernel
theorem dX12_keep_1 : decode cX12_keep 1 = .ok (.istore_n 1, 1) := by decide +kernel
theorem dX12_keep_2 : decode cX12_keep 2 = .ok (.iload_n 1, 1) := by decide +kernel
theorem dX12_keep_3 : decode cX12_keep 3 = .ok (.sipush 1662, 3) := by decide +kernel
theorem dX12_keep_6 : decode cX12_keep 6 = .ok (.if_icmp .ge 21, 3) := by decide +kernel
theorem dX12_keep_27 : decode cX12_keep 27 = .ok (.aload_n 0, 1) := by decide +kernel
theorem dX12_keep_28 : decode cX12_keep 28 = .ok (.iconst 1, 1) := by decide +kernel
theorem dX12_keep_29 : decode cX12_keep 29 = .ok (.putfield 383, 3) := by decide +kernel
theorem m_1420 : Cond.fieldLink RX12 383 "InquiryBenchModel" "hasKept" "Z" ∈ BW := List.mem_of_getElem? (i := 1420) (by decide +kernel)
theorem pf_X12_383 (hC : CX p s m meth c y0 b0 mL0 rt0 args) (hy0 : y0.cls = RX12) (hK : KK G s) (hP : va_P G.1 vwCl ws H) (hD : va_D A ws) (hS : va_S A H0 H locs) (q0 : Nat) {fs : List Value} {v : Value} {ws' : va_W} (he : ws[q0]? = some (a, .inr (12, fs))) (hl : 2 < fs.length) (hws : ws.set q0 (a, .inr (12, fs.set 2 v)) = ws') (hn : narrow .boolean v = v) (hfit : fits .boolean v = true) (hdg : decode b0 pc = .ok (.putfield 383, 3)) (kk : ∀ (H1 : Heap) (locs1 : List Loc), va_P G.1 vwCl ws' H1 → va_D A ws' → va_S A H0 H1 locs1 → W p l e R s m args below meth c H1 locs1 cells slots Q (F0 m (pc + 3) ls rest)) : W p l e R s m args below meth c H locs cells slots Q (F0 m pc ls (v :: .ref a :: rest)) := by
  obtain ⟨hx, hb, hr, hml, hB, hown, hlocks, hnm⟩ := hC
  rw [hy0] at hown
  subst hws
  exact va_put (ci := 12) (ty := .boolean) (C := RX12) (T := TX12) (N := 41) hx hb hB in_X12 tyX12 tyX12_ok nmX12 hown hK.1 hP hD hS q0 he rfl 2 (by decide) (hB _ m_1420) (fun _ h => h) rfl (by decide +kernel) hn hfit hl hdg kk
theorem dX12_keep_32 : decode cX12_keep 32 = .ok (.iconst 1, 1) := by decide +kernel
theorem dX12_keep_33 : decode cX12_keep 33 = .ok (.ireturn, 1) := by decide +kernel
theorem dX12_keep_9 : decode cX12_keep 9 = .ok (.aload_n 0, 1) := by decide +kernel
theorem dX12_keep_10 : decode cX12_keep 10 = .ok (.getfield 13, 3) := by decide +kernel
theorem m_188 : Cond.fieldLink RX12 13 "InquiryBenchModel" "kept" "[I" ∈ BW := List.mem_of_getElem? (i := 188) (by decide +kernel)
theorem gf_X12_13 (hC : CX p s m meth c y0 b0 mL0 rt0 args) (hy0 : y0.cls = RX12) (hK : KK G s) (hP : va_P G.1 vwCl ws H) (q0 : Nat) {fs : List Value} {v : Value} (he : ws[q0]? = some (a, .inr (12, fs))) (hv : fs[1]? = some v) (hdg : decode b0 pc = .ok (.getfield 13, 3)) (kk : W p l e R s m args below meth c H locs cells slots Q (F0 m (pc + 3) ls (v :: rest))) : W p l e R s m args below meth c H locs cells slots Q (F0 m pc ls (.ref a :: rest)) := by
  obtain ⟨hx, hb, hr, hml, hB, hown, hlocks, hnm⟩ := hC
  rw [hy0] at hown
  exact va_get (ci := 12) (C := RX12) (T := TX12) (N := 41) hx hb hB in_X12 hown hK.1 hP q0 he rfl 1 (by decide) (hB _ m_188) (fun _ h => h) hv hdg kk
theorem dX12_keep_13 : decode cX12_keep 13 = .ok (.iload_n 1, 1) := by decide +kernel
theorem dX12_keep_14 : decode cX12_keep 14 = .ok (.aload_n 0, 1) := by decide +kernel
theorem dX12_keep_15 : decode cX12_keep 15 = .ok (.getfield 9, 3) := by decide +kernel
theorem dX12_keep_18 : decode cX12_keep 18 = .ok (.iload_n 1, 1) := by decide +kernel
theorem dX12_keep_19 : decode cX12_keep 19 = .ok (.iaload, 1) := by decide +kernel
theorem dX12_keep_20 : decode cX12_keep 20 = .ok (.iastore, 1) := by decide +kernel
theorem dX12_keep_21 : decode cX12_keep 21 = .ok (.iinc 1 1, 3) := by decide +kernel
theorem dX12_keep_24 : decode cX12_keep 24 = .ok (.goto (-22), 3) := by decide +kernel
theorem dX12_again_0 : decode cX12_again 0 = .ok (.aload_n 0, 1) := by decide +kernel
theorem dX12_again_1 : decode cX12_again 1 = .ok (.getfield 383, 3) := by decide +kernel
theorem gf_X12_383 (hC : CX p s m meth c y0 b0 mL0 rt0 args) (hy0 : y0.cls = RX12) (hK : KK G s) (hP : va_P G.1 vwCl ws H) (q0 : Nat) {fs : List Value} {v : Value} (he : ws[q0]? = some (a, .inr (12, fs))) (hv : fs[2]? = some v) (hdg : decode b0 pc = .ok (.getfield 383, 3)) (kk : W p l e R s m args below meth c H locs cells slots Q (F0 m (pc + 3) ls (v :: rest))) : W p l e R s m args below meth c H locs cells slots Q (F0 m pc ls (.ref a :: rest)) := by
  obtain ⟨hx, hb, hr, hml, hB, hown, hlocks, hnm⟩ := hC
  rw [hy0] at hown
  exact va_get (ci := 12) (C := RX12) (T := TX12) (N := 41) hx hb hB in_X12 hown hK.1 hP q0 he rfl 2 (by decide) (hB _ m_1420) (fun _ h => h) hv hdg kk
theorem dX12_again_4 : decode cX12_again 4 = .ok (.ifCond .ne 6, 3) := by decide +kernel
theorem dX12_again_7 : decode cX12_again 7 = .ok (.bipush (-3), 2) := by decide +kernel
theorem dX12_again_9 : decode cX12_again 9 = .ok (.ireturn, 1) := by decide +kernel
theorem dX12_again_10 : decode cX12_again 10 = .ok (.iconst 0, 1) := by decide +kernel
theorem dX12_again_11 : decode cX12_again 11 = .ok (.istore_n 1, 1) := by decide +kernel
theorem dX12_again_12 : decode cX12_again 12 = .ok (.iload_n 1, 1) := by decide +kernel
theorem dX12_again_13 : decode cX12_again 13 = .ok (.sipush 1662, 3) := by decide +kernel
theorem dX12_again_16 : decode cX12_again 16 = .ok (.if_icmp .ge 21, 3) := by decide +kernel
theorem dX12_again_37 : decode cX12_again 37 = .ok (.iconst 1, 1) := by decide +kernel
theorem dX12_again_38 : decode cX12_again 38 = .ok (.ireturn, 1) := by decide +kernel
theorem dX12_again_19 : decode cX12_again 19 = .ok (.aload_n 0, 1) := by decide +kernel
theorem dX12_again_20 : decode cX12_again 20 = .ok (.getfield 9, 3) := by decide +kernel
theorem dX12_again_23 : decode cX12_again 23 = .ok (.iload_n 1, 1) := by decide +kernel
theorem dX12_again_24 : decode cX12_again 24 = .ok (.aload_n 0, 1) := by decide +kernel
theorem dX12_again_25 : decode cX12_again 25 = .ok (.getfield 13, 3) := by decide +kernel
theorem dX12_again_28 : decode cX12_again 28 = .ok (.iload_n 1, 1) := by decide +kernel
theorem dX12_again_29 : decode cX12_again 29 = .ok (.iaload, 1) := by decide +kernel
theorem dX12_again_30 : decode cX12_again 30 = .ok (.iastore, 1) := by decide +kernel
theorem dX12_again_31 : decode cX12_again 31 = .ok (.iinc 1 1, 3) := by decide +kernel
theorem dX12_again_34 : decode cX12_again 34 = .ok (.goto (-22), 3) := by decide +kernel
end WR
set_option maxHeartbeats 4000000 in
set_option maxRecDepth 100000 in
theorem m_kindOn (l : Launch) (G : GG) (h0 : Nat) (jt : Nat) (nw : Nat) (nk : Nat) (mhasKept : Int32) (nt : Nat) (mtaped : Int32) (nr : Nat) (mrowMany : Int32) (mroundOf : Int32) (mroundFrom : Int32) (mouts : Int32) (nm : Nat) (mfromHour : Int32) (mtoHour : Int32) (ns : Nat) (mfrom : Int32) (mto : Int32) (msort : Int32) (misFault : Int32) (mdeep : Int32) (mcoded : Int32) (mlines : Int32) (nl : Nat) (nc : Nat) (nF : Nat) (np : Nat) (ntr : Nat) (nb : Nat) (mbestCost : Int32) (nso : Nat) (nsi : Nat) (nit : Nat) (nsh : Nat) (nsf : Nat) (nss : Nat) (nrc : Nat) (mtraced : Int32) (mdealer : Int32) (mnumber : Int32) (mwhose : Int32) (msize : Int32) (misParted : Int32) (fnw : Nat → Int32) (fnsh : Nat → Int32) (fnsf : Nat → Int32) (hjt : jt < 4) (hN : NI fnw) : MP l G yX12_kindOn cX12_kindOn 4 (some .int) 3 [.ref h0, .int (nI jt)] [(h0, .inr (12, [.ref nw, .ref nk, .int mhasKept, .ref nt, .int mtaped, .ref nr, .int mrowMany, .int mroundOf, .int mroundFrom, .int mouts, .ref nm, .int mfromHour, .int mtoHour, .ref ns, .int mfrom, .int mto, .int msort, .int misFault, .int mdeep, .int mcoded, .int mlines, .ref nl, .ref nc, .ref nF, .ref np, .ref ntr, .ref nb, .int mbestCost, .ref nso, .ref nsi, .ref nit, .ref nsh, .ref nsf, .ref nss, .ref nrc, .int mtraced, .int mdealer, .int mnumber, .int mwhose, .int msize, .int misParted])), (nw, .inl (G.2.1, 1662, .inl fnw)), (nsh, .inl (G.2.1, 4, .inl fnsh)), (nsf, .inl (G.2.1, 4, .inl fnsf))] (fun r : Int32 => r = (-1) ∨ (r = 1 ∧ KO1 (fnsh jt) (fnsf jt) 1 12) ∨ (r = 2 ∧ KO1 (fnsh jt) (fnsf jt) 1 12) ∨ (r = 3 ∧ KO1 (fnsh jt) (fnsf jt) 1 12) ∨ (r = 4 ∧ KO1 (fnsh jt) (fnsf jt) 2 16) ∨ (r = 5 ∧ KO1 (fnsh jt) (fnsf jt) 2 16) ∨ (r = 6 ∧ KO1 (fnsh jt) (fnsf jt) 3 12)) := by
  refine MP.start (by decide +kernel) (Nat.le_of_ble_eq_true rfl) ?_
  intro p e s m below meth c ls hC hK hP hD hl
  have hl : lv_has ls 4 [(0, .ref h0), (1, .int (nI jt))] := hl
  obtain ⟨hx, hb, hr, hml, hB, hown, hlocks, hnm⟩ := id hC
  obtain ⟨kq, hkq, ekq⟩ := NI.nat hN (i := 5) (B := 12) (by decide +kernel) (by decide)
  obtain ⟨k8, hk8, ek8⟩ := NI.nat hN (i := 8) (B := 16) (by decide +kernel) (by decide)
  obtain ⟨k9, hk9, ek9⟩ := NI.nat hN (i := 9) (B := 12) (by decide +kernel) (by decide)
  refine lv_aload_n hx hb dX12_kindOn_0 rfl (lv_at hl 0 rfl) ?_
  refine gf_X12_75 hC rfl hK hP 0 rfl rfl dX12_kindOn_1 ?_
  refine lv_iload_n hx hb dX12_kindOn_4 rfl (lv_at hl 1 rfl) ?_
  refine ald hC hK hP 3 rfl (vp_in_nI (by omega) (by omega)) (k := jt) (nI_clamp (by omega)) (v := fnsf jt) rfl dX12_kindOn_5 ?_
  refine lv_topi (fun x5863 ex5863 => ?_)
  refine lv_istore_n (lv' := [(2, .int x5863), (0, .ref h0), (1, .int (nI jt))]) hx hb dX12_kindOn_6 rfl hl (by decide) rfl (fun ls hl => ?_)
  refine lv_aload_n hx hb dX12_kindOn_7 rfl (lv_at hl 1 rfl) ?_
  refine gf_X12_72 hC rfl hK hP 0 rfl rfl dX12_kindOn_8 ?_
  refine lv_iload_n hx hb dX12_kindOn_11 rfl (lv_at hl 2 rfl) ?_
  refine ald hC hK hP 2 rfl (vp_in_nI (by omega) (by omega)) (k := jt) (nI_clamp (by omega)) (v := fnsh jt) rfl dX12_kindOn_12 ?_
  refine lv_topi (fun x5864 ex5864 => ?_)
  by_cases c_13_5865 : x5864 = 1
  · refine lv_tableIn (tgt := 40) hx hb dX12_kindOn_13 (by rw [c_13_5865]; decide) (by rw [c_13_5865]; decide) (by rw [c_13_5865]; rfl) (by decide) ?_
    refine lv_aload_n hx hb dX12_kindOn_40 rfl (lv_at hl 1 rfl) ?_
    refine lv_iload_n hx hb dX12_kindOn_41 rfl (lv_at hl 0 rfl) ?_
    refine lv_iconst (v := 5) hx hb dX12_kindOn_42 (by decide) ?_
    refine pV hC hK hl hP hD (m_is l G kq h0 x5863 5 nw nk mhasKept nt mtaped nr mrowMany mroundOf mroundFrom mouts nm mfromHour mtoHour ns mfrom mto msort misFault mdeep mcoded mlines nl nc nF np ntr nb mbestCost nso nsi nit nsh nsf nss nrc mtraced mdealer mnumber mwhose msize misParted fnw (by omega) (ekq) (by omega)) si_X12_120 [0, 1] rfl rfl (by decide) rfl rfl rfl rfl rfl (Nat.le_of_ble_eq_true rfl) ⟨Nat.le_of_ble_eq_true rfl, Nat.le_of_ble_eq_true rfl⟩ ⟨by first | exact Nat.le_of_ble_eq_true rfl | exact Nat.zero_le _, by first | exact Nat.le_of_ble_eq_true rfl | exact Nat.zero_le _⟩ dX12_kindOn_43 (fun r5866 hr5866 => ?_)
    rcases hr5866 with ⟨rfl, a5867⟩ | ⟨rfl, a5867⟩
    · refine lv_if_eq (tgt := 73) hx hb dX12_kindOn_46 (by decide) (fun c9 => absurd c9 (by decide)) (fun _ => ?_)
      refine lv_aload_n hx hb dX12_kindOn_49 rfl (lv_at hl 1 rfl) ?_
      refine lv_iload_n hx hb dX12_kindOn_50 rfl (lv_at hl 0 rfl) ?_
      obtain ⟨jn5868, hjn5868, ek5868⟩ := Hs_nat (by omega) a5867
      refine eqi (x1 := nI jn5868) ek5868 ?_
      refine lv_iconst (v := 1) hx hb dX12_kindOn_51 (by decide) ?_
      refine pV hC hK hl hP hD (m_paper l G h0 jn5868 1 nw nk mhasKept nt mtaped nr mrowMany mroundOf mroundFrom mouts nm mfromHour mtoHour ns mfrom mto msort misFault mdeep mcoded mlines nl nc nF np ntr nb mbestCost nso nsi nit nsh nsf nss nrc mtraced mdealer mnumber mwhose msize misParted fnw (by omega) (by omega)) si_X12_88 [0, 1] rfl rfl (by decide) rfl rfl rfl rfl rfl (Nat.le_of_ble_eq_true rfl) ⟨Nat.le_of_ble_eq_true rfl, Nat.le_of_ble_eq_true rfl⟩ ⟨by first | exact Nat.le_of_ble_eq_true rfl | exact Nat.zero_le _, by first | exact Nat.le_of_ble_eq_true rfl | exact Nat.zero_le _⟩ dX12_kindOn_52 (fun r5869 hr5869 => ?_)
      obtain rfl := hr5869
      refine lv_iconst (v := 1) hx hb dX12_kindOn_55 (by decide) ?_
      refine lv_aload_n hx hb dX12_kindOn_56 rfl (lv_at hl 1 rfl) ?_
      refine lv_iload_n hx hb dX12_kindOn_57 rfl (lv_at hl 0 rfl) ?_
      obtain ⟨jn5871, hjn5871, ek5871⟩ := Hs_nat (by omega) a5867
      refine eqi (x1 := nI jn5871) ek5871 ?_
      refine lv_iconst (v := 0) hx hb dX12_kindOn_58 (by decide) ?_
      refine pV hC hK hl hP hD (m_paper l G h0 jn5871 0 nw nk mhasKept nt mtaped nr mrowMany mroundOf mroundFrom mouts nm mfromHour mtoHour ns mfrom mto msort misFault mdeep mcoded mlines nl nc nF np ntr nb mbestCost nso nsi nit nsh nsf nss nrc mtraced mdealer mnumber mwhose msize misParted fnw (by omega) (by omega)) si_X12_88 [0, 1] rfl rfl (by decide) rfl rfl rfl rfl rfl (Nat.le_of_ble_eq_true rfl) ⟨Nat.le_of_ble_eq_true rfl, Nat.le_of_ble_eq_true rfl⟩ ⟨by first | exact Nat.le_of_ble_eq_true rfl | exact Nat.zero_le _, by first | exact Nat.le_of_ble_eq_true rfl | exact Nat.zero_le _⟩ dX12_kindOn_59 (fun r5872 hr5872 => ?_)
      obtain rfl := hr5872
      refine lv_ishl hx hb dX12_kindOn_62 ?_
      refine lv_iconst (v := (-1)) hx hb dX12_kindOn_63 (by decide) ?_
      refine lv_ixor hx hb dX12_kindOn_64 ?_
      refine lv_iand hx hb dX12_kindOn_65 ?_
      refine lv_if_eq (tgt := 73) hx hb dX12_kindOn_66 (by decide) (fun c_66_5874 => ?_) (fun c_66_5874 => ?_)
      · refine lv_iconst (v := 0) hx hb dX12_kindOn_73 (by decide) ?_
        refine lv_istore_n (lv' := [(3, .int 0), (2, .int x5863), (0, .ref h0), (1, .int (nI jt))]) hx hb dX12_kindOn_74 rfl hl (by decide) rfl (fun ls hl => ?_)
        refine lv_aload_n hx hb dX12_kindOn_75 rfl (lv_at hl 2 rfl) ?_
        refine lv_iload_n hx hb dX12_kindOn_76 rfl (lv_at hl 1 rfl) ?_
        refine lv_iconst (v := 5) hx hb dX12_kindOn_77 (by decide) ?_
        refine pV hC hK hl hP hD (m_is l G kq h0 x5863 5 nw nk mhasKept nt mtaped nr mrowMany mroundOf mroundFrom mouts nm mfromHour mtoHour ns mfrom mto msort misFault mdeep mcoded mlines nl nc nF np ntr nb mbestCost nso nsi nit nsh nsf nss nrc mtraced mdealer mnumber mwhose msize misParted fnw (by omega) (ekq) (by omega)) si_X12_120 [0, 1] rfl rfl (by decide) rfl rfl rfl rfl rfl (Nat.le_of_ble_eq_true rfl) ⟨Nat.le_of_ble_eq_true rfl, Nat.le_of_ble_eq_true rfl⟩ ⟨by first | exact Nat.le_of_ble_eq_true rfl | exact Nat.zero_le _, by first | exact Nat.le_of_ble_eq_true rfl | exact Nat.zero_le _⟩ dX12_kindOn_78 (fun r5875 hr5875 => ?_)
        rcases hr5875 with ⟨rfl, a5876⟩ | ⟨rfl, a5876⟩
        · refine lv_if_ne (tgt := 88) hx hb dX12_kindOn_81 (by decide) (fun _ => ?_) (fun c9 => absurd c9 (by decide))
          refine lv_iload_n hx hb dX12_kindOn_88 rfl (lv_at hl 0 rfl) ?_
          refine lv_if_ne (tgt := 96) hx hb dX12_kindOn_89 (by decide) (fun c9 => absurd (by decide) c9) (fun _ => ?_)
          refine lv_iconst (v := 2) hx hb dX12_kindOn_92 (by decide) ?_
          refine lv_goto (tgt := 110) hx hb dX12_kindOn_93 (by decide) ?_
          exact RP (v := 2) hC (Or.inr (Or.inr (Or.inl (⟨rfl, KO1.mk (kk := kq) (by omega) (by omega) ex5864 ex5863 c_13_5865 a5876⟩)))) rfl dX12_kindOn_110
        · exact absurd a5867 a5876
      · refine lv_iconst (v := 1) hx hb dX12_kindOn_69 (by decide) ?_
        refine lv_goto (tgt := 74) hx hb dX12_kindOn_70 (by decide) ?_
        refine lv_istore_n (lv' := [(3, .int 1), (2, .int x5863), (0, .ref h0), (1, .int (nI jt))]) hx hb dX12_kindOn_74 rfl hl (by decide) rfl (fun ls hl => ?_)
        refine lv_aload_n hx hb dX12_kindOn_75 rfl (lv_at hl 2 rfl) ?_
        refine lv_iload_n hx hb dX12_kindOn_76 rfl (lv_at hl 1 rfl) ?_
        refine lv_iconst (v := 5) hx hb dX12_kindOn_77 (by decide) ?_
        refine pV hC hK hl hP hD (m_is l G kq h0 x5863 5 nw nk mhasKept nt mtaped nr mrowMany mroundOf mroundFrom mouts nm mfromHour mtoHour ns mfrom mto msort misFault mdeep mcoded mlines nl nc nF np ntr nb mbestCost nso nsi nit nsh nsf nss nrc mtraced mdealer mnumber mwhose msize misParted fnw (by omega) (ekq) (by omega)) si_X12_120 [0, 1] rfl rfl (by decide) rfl rfl rfl rfl rfl (Nat.le_of_ble_eq_true rfl) ⟨Nat.le_of_ble_eq_true rfl, Nat.le_of_ble_eq_true rfl⟩ ⟨by first | exact Nat.le_of_ble_eq_true rfl | exact Nat.zero_le _, by first | exact Nat.le_of_ble_eq_true rfl | exact Nat.zero_le _⟩ dX12_kindOn_78 (fun r5877 hr5877 => ?_)
        rcases hr5877 with ⟨rfl, a5878⟩ | ⟨rfl, a5878⟩
        · refine lv_if_ne (tgt := 88) hx hb dX12_kindOn_81 (by decide) (fun _ => ?_) (fun c9 => absurd c9 (by decide))
          refine lv_iload_n hx hb dX12_kindOn_88 rfl (lv_at hl 0 rfl) ?_
          refine lv_if_ne (tgt := 96) hx hb dX12_kindOn_89 (by decide) (fun _ => ?_) (fun c9 => absurd c9 (by decide))
          refine lv_aload_n hx hb dX12_kindOn_96 rfl (lv_at hl 2 rfl) ?_
          refine lv_iload_n hx hb dX12_kindOn_97 rfl (lv_at hl 1 rfl) ?_
          obtain ⟨jn5879, hjn5879, ek5879⟩ := Hs_nat (by omega) a5878
          refine eqi (x1 := nI jn5879) ek5879 ?_
          refine lv_iconst (v := 3) hx hb dX12_kindOn_98 (by decide) ?_
          refine pV hC hK hl hP hD (m_paper l G h0 jn5879 3 nw nk mhasKept nt mtaped nr mrowMany mroundOf mroundFrom mouts nm mfromHour mtoHour ns mfrom mto msort misFault mdeep mcoded mlines nl nc nF np ntr nb mbestCost nso nsi nit nsh nsf nss nrc mtraced mdealer mnumber mwhose msize misParted fnw (by omega) (by omega)) si_X12_88 [0, 1] rfl rfl (by decide) rfl rfl rfl rfl rfl (Nat.le_of_ble_eq_true rfl) ⟨Nat.le_of_ble_eq_true rfl, Nat.le_of_ble_eq_true rfl⟩ ⟨by first | exact Nat.le_of_ble_eq_true rfl | exact Nat.zero_le _, by first | exact Nat.le_of_ble_eq_true rfl | exact Nat.zero_le _⟩ dX12_kindOn_99 (fun r5880 hr5880 => ?_)
          obtain rfl := hr5880
          refine lv_if_le (tgt := 109) hx hb dX12_kindOn_102 (by decide) (fun c_102_5882 => ?_) (fun c_102_5882 => ?_)
          · refine lv_iconst (v := 1) hx hb dX12_kindOn_109 (by decide) ?_
            exact RP (v := 1) hC (Or.inr (Or.inl (⟨rfl, KO1.mk (kk := kq) (by omega) (by omega) ex5864 ex5863 c_13_5865 a5878⟩))) rfl dX12_kindOn_110
          · refine lv_iconst (v := 3) hx hb dX12_kindOn_105 (by decide) ?_
            refine lv_goto (tgt := 110) hx hb dX12_kindOn_106 (by decide) ?_
            exact RP (v := 3) hC (Or.inr (Or.inr (Or.inr (Or.inl (⟨rfl, KO1.mk (kk := kq) (by omega) (by omega) ex5864 ex5863 c_13_5865 a5878⟩))))) rfl dX12_kindOn_110
        · exact absurd a5867 a5878
    · refine lv_if_eq (tgt := 73) hx hb dX12_kindOn_46 (by decide) (fun _ => ?_) (fun c9 => absurd (by decide) c9)
      refine lv_iconst (v := 0) hx hb dX12_kindOn_73 (by decide) ?_
      refine lv_istore_n (lv' := [(3, .int 0), (2, .int x5863), (0, .ref h0), (1, .int (nI jt))]) hx hb dX12_kindOn_74 rfl hl (by decide) rfl (fun ls hl => ?_)
      refine lv_aload_n hx hb dX12_kindOn_75 rfl (lv_at hl 2 rfl) ?_
      refine lv_iload_n hx hb dX12_kindOn_76 rfl (lv_at hl 1 rfl) ?_
      refine lv_iconst (v := 5) hx hb dX12_kindOn_77 (by decide) ?_
      refine pV hC hK hl hP hD (m_is l G kq h0 x5863 5 nw nk mhasKept nt mtaped nr mrowMany mroundOf mroundFrom mouts nm mfromHour mtoHour ns mfrom mto msort misFault mdeep mcoded mlines nl nc nF np ntr nb mbestCost nso nsi nit nsh nsf nss nrc mtraced mdealer mnumber mwhose msize misParted fnw (by omega) (ekq) (by omega)) si_X12_120 [0, 1] rfl rfl (by decide) rfl rfl rfl rfl rfl (Nat.le_of_ble_eq_true rfl) ⟨Nat.le_of_ble_eq_true rfl, Nat.le_of_ble_eq_true rfl⟩ ⟨by first | exact Nat.le_of_ble_eq_true rfl | exact Nat.zero_le _, by first | exact Nat.le_of_ble_eq_true rfl | exact Nat.zero_le _⟩ dX12_kindOn_78 (fun r5883 hr5883 => ?_)
      rcases hr5883 with ⟨rfl, a5884⟩ | ⟨rfl, a5884⟩
      · exact absurd a5884 a5867
      · refine lv_if_ne (tgt := 88) hx hb dX12_kindOn_81 (by decide) (fun c9 => absurd (by decide) c9) (fun _ => ?_)
        refine lv_iconst (v := (-1)) hx hb dX12_kindOn_84 (by decide) ?_
        refine lv_goto (tgt := 110) hx hb dX12_kindOn_85 (by decide) ?_
        exact RP (v := (-1)) hC (Or.inl (rfl)) rfl dX12_kindOn_110
  by_cases c_13_5885 : x5864 = 2
  · refine lv_tableIn (tgt := 111) hx hb dX12_kindOn_13 (by rw [c_13_5885]; decide) (by rw [c_13_5885]; decide) (by rw [c_13_5885]; rfl) (by decide) ?_
    refine lv_aload_n hx hb dX12_kindOn_111 rfl (lv_at hl 1 rfl) ?_
    refine lv_iload_n hx hb dX12_kindOn_112 rfl (lv_at hl 0 rfl) ?_
    refine lv_bipush (v := 8) hx hb dX12_kindOn_113 (by decide) ?_
    refine pV hC hK hl hP hD (m_is l G k8 h0 x5863 8 nw nk mhasKept nt mtaped nr mrowMany mroundOf mroundFrom mouts nm mfromHour mtoHour ns mfrom mto msort misFault mdeep mcoded mlines nl nc nF np ntr nb mbestCost nso nsi nit nsh nsf nss nrc mtraced mdealer mnumber mwhose msize misParted fnw (by omega) (ek8) (by omega)) si_X12_120 [0, 1] rfl rfl (by decide) rfl rfl rfl rfl rfl (Nat.le_of_ble_eq_true rfl) ⟨Nat.le_of_ble_eq_true rfl, Nat.le_of_ble_eq_true rfl⟩ ⟨by first | exact Nat.le_of_ble_eq_true rfl | exact Nat.zero_le _, by first | exact Nat.le_of_ble_eq_true rfl | exact Nat.zero_le _⟩ dX12_kindOn_115 (fun r5886 hr5886 => ?_)
    rcases hr5886 with ⟨rfl, a5887⟩ | ⟨rfl, a5887⟩
    · refine lv_if_ne (tgt := 125) hx hb dX12_kindOn_118 (by decide) (fun _ => ?_) (fun c9 => absurd c9 (by decide))
      refine lv_aload_n hx hb dX12_kindOn_125 rfl (lv_at hl 1 rfl) ?_
      refine lv_iload_n hx hb dX12_kindOn_126 rfl (lv_at hl 0 rfl) ?_
      obtain ⟨jn5888, hjn5888, ek5888⟩ := Hs_nat (by omega) a5887
      refine eqi (x1 := nI jn5888) ek5888 ?_
      refine lv_bipush (v := 6) hx hb dX12_kindOn_127 (by decide) ?_
      refine pV hC hK hl hP hD (m_saying l G h0 jn5888 6 nw nk mhasKept nt mtaped nr mrowMany mroundOf mroundFrom mouts nm mfromHour mtoHour ns mfrom mto msort misFault mdeep mcoded mlines nl nc nF np ntr nb mbestCost nso nsi nit nsh nsf nss nrc mtraced mdealer mnumber mwhose msize misParted fnw (by omega) (by omega)) si_X12_114 [0, 1] rfl rfl (by decide) rfl rfl rfl rfl rfl (Nat.le_of_ble_eq_true rfl) ⟨Nat.le_of_ble_eq_true rfl, Nat.le_of_ble_eq_true rfl⟩ ⟨by first | exact Nat.le_of_ble_eq_true rfl | exact Nat.zero_le _, by first | exact Nat.le_of_ble_eq_true rfl | exact Nat.zero_le _⟩ dX12_kindOn_129 (fun r5889 hr5889 => ?_)
      obtain rfl := hr5889
      refine lv_if_ge (tgt := 139) hx hb dX12_kindOn_132 (by decide) (fun c_132_5891 => ?_) (fun c_132_5891 => ?_)
      · refine lv_iconst (v := 4) hx hb dX12_kindOn_139 (by decide) ?_
        exact RP (v := 4) hC (Or.inr (Or.inr (Or.inr (Or.inr (Or.inl (⟨rfl, KO1.mk (kk := k8) (by omega) (by omega) ex5864 ex5863 c_13_5885 a5887⟩)))))) rfl dX12_kindOn_140
      · refine lv_iconst (v := 5) hx hb dX12_kindOn_135 (by decide) ?_
        refine lv_goto (tgt := 140) hx hb dX12_kindOn_136 (by decide) ?_
        exact RP (v := 5) hC (Or.inr (Or.inr (Or.inr (Or.inr (Or.inr (Or.inl (⟨rfl, KO1.mk (kk := k8) (by omega) (by omega) ex5864 ex5863 c_13_5885 a5887⟩))))))) rfl dX12_kindOn_140
    · refine lv_if_ne (tgt := 125) hx hb dX12_kindOn_118 (by decide) (fun c9 => absurd (by decide) c9) (fun _ => ?_)
      refine lv_iconst (v := (-1)) hx hb dX12_kindOn_121 (by decide) ?_
      refine lv_goto (tgt := 140) hx hb dX12_kindOn_122 (by decide) ?_
      exact RP (v := (-1)) hC (Or.inl (rfl)) rfl dX12_kindOn_140
  by_cases c_13_5892 : x5864 = 3
  · refine lv_tableIn (tgt := 141) hx hb dX12_kindOn_13 (by rw [c_13_5892]; decide) (by rw [c_13_5892]; decide) (by rw [c_13_5892]; rfl) (by decide) ?_
    refine lv_aload_n hx hb dX12_kindOn_141 rfl (lv_at hl 1 rfl) ?_
    refine lv_iload_n hx hb dX12_kindOn_142 rfl (lv_at hl 0 rfl) ?_
    refine lv_bipush (v := 9) hx hb dX12_kindOn_143 (by decide) ?_
    refine pV hC hK hl hP hD (m_is l G k9 h0 x5863 9 nw nk mhasKept nt mtaped nr mrowMany mroundOf mroundFrom mouts nm mfromHour mtoHour ns mfrom mto msort misFault mdeep mcoded mlines nl nc nF np ntr nb mbestCost nso nsi nit nsh nsf nss nrc mtraced mdealer mnumber mwhose msize misParted fnw (by omega) (ek9) (by omega)) si_X12_120 [0, 1] rfl rfl (by decide) rfl rfl rfl rfl rfl (Nat.le_of_ble_eq_true rfl) ⟨Nat.le_of_ble_eq_true rfl, Nat.le_of_ble_eq_true rfl⟩ ⟨by first | exact Nat.le_of_ble_eq_true rfl | exact Nat.zero_le _, by first | exact Nat.le_of_ble_eq_true rfl | exact Nat.zero_le _⟩ dX12_kindOn_145 (fun r5893 hr5893 => ?_)
    rcases hr5893 with ⟨rfl, a5894⟩ | ⟨rfl, a5894⟩
    · refine lv_if_eq (tgt := 156) hx hb dX12_kindOn_148 (by decide) (fun c9 => absurd c9 (by decide)) (fun _ => ?_)
      refine lv_bipush (v := 6) hx hb dX12_kindOn_151 (by decide) ?_
      refine lv_goto (tgt := 157) hx hb dX12_kindOn_153 (by decide) ?_
      exact RP (v := 6) hC (Or.inr (Or.inr (Or.inr (Or.inr (Or.inr (Or.inr (⟨rfl, KO1.mk (kk := k9) (by omega) (by omega) ex5864 ex5863 c_13_5892 a5894⟩))))))) rfl dX12_kindOn_157
    · refine lv_if_eq (tgt := 156) hx hb dX12_kindOn_148 (by decide) (fun _ => ?_) (fun c9 => absurd (by decide) c9)
      refine lv_iconst (v := (-1)) hx hb dX12_kindOn_156 (by decide) ?_
      exact RP (v := (-1)) hC (Or.inl (rfl)) rfl dX12_kindOn_157
  refine lv_tableOut (tgt := 158) hx hb dX12_kindOn_13 (by have q9 := sw_1_3 (x := x5864); simp only [c_13_5865, c_13_5885, c_13_5892, not_false_eq_true, true_implies] at q9; exact q9) (by decide) ?_
  refine lv_iconst (v := (-1)) hx hb dX12_kindOn_158 (by decide) ?_
  exact RP (v := (-1)) hC (Or.inl (rfl)) rfl dX12_kindOn_159
set_option maxHeartbeats 4000000 in
set_option maxRecDepth 100000 in
theorem m_above0 (l : Launch) (G : GG) : MP l G yX12_above cX12_above 1 (some .int) 1 [.int 0] [] (fun r : Int32 => r = (-1)) := by
  refine MP.start (by decide +kernel) (Nat.le_of_ble_eq_true rfl) ?_
  intro p e s m below meth c ls hC hK hP hD hl
  have hl : lv_has ls 1 [(0, .int 0)] := hl
  obtain ⟨hx, hb, hr, hml, hB, hown, hlocks, hnm⟩ := id hC
  refine lv_iload_n hx hb dX12_above_0 rfl (lv_at hl 0 rfl) ?_
  refine lv_iconst (v := 3) hx hb dX12_above_1 (by decide) ?_
  refine lv_icmp_ne (tgt := 9) hx hb dX12_above_2 (by decide) (fun _ => ?_) (fun c9 => absurd c9 (by decide))
  refine lv_iload_n hx hb dX12_above_9 rfl (lv_at hl 0 rfl) ?_
  refine lv_iconst (v := 5) hx hb dX12_above_10 (by decide) ?_
  refine lv_icmp_ne (tgt := 18) hx hb dX12_above_11 (by decide) (fun _ => ?_) (fun c9 => absurd c9 (by decide))
  refine lv_iload_n hx hb dX12_above_18 rfl (lv_at hl 0 rfl) ?_
  refine lv_if_ne (tgt := 26) hx hb dX12_above_19 (by decide) (fun c9 => absurd (by decide) c9) (fun _ => ?_)
  refine lv_iconst (v := (-1)) hx hb dX12_above_22 (by decide) ?_
  refine lv_goto (tgt := 27) hx hb dX12_above_23 (by decide) ?_
  exact RP (v := (-1)) hC (rfl) rfl dX12_above_27
set_option maxHeartbeats 4000000 in
set_option maxRecDepth 100000 in
theorem m_above1 (l : Launch) (G : GG) : MP l G yX12_above cX12_above 1 (some .int) 1 [.int 1] [] (fun r : Int32 => r = 0) := by
  refine MP.start (by decide +kernel) (Nat.le_of_ble_eq_true rfl) ?_
  intro p e s m below meth c ls hC hK hP hD hl
  have hl : lv_has ls 1 [(0, .int 1)] := hl
  obtain ⟨hx, hb, hr, hml, hB, hown, hlocks, hnm⟩ := id hC
  refine lv_iload_n hx hb dX12_above_0 rfl (lv_at hl 0 rfl) ?_
  refine lv_iconst (v := 3) hx hb dX12_above_1 (by decide) ?_
  refine lv_icmp_ne (tgt := 9) hx hb dX12_above_2 (by decide) (fun _ => ?_) (fun c9 => absurd c9 (by decide))
  refine lv_iload_n hx hb dX12_above_9 rfl (lv_at hl 0 rfl) ?_
  refine lv_iconst (v := 5) hx hb dX12_above_10 (by decide) ?_
  refine lv_icmp_ne (tgt := 18) hx hb dX12_above_11 (by decide) (fun _ => ?_) (fun c9 => absurd c9 (by decide))
  refine lv_iload_n hx hb dX12_above_18 rfl (lv_at hl 0 rfl) ?_
  refine lv_if_ne (tgt := 26) hx hb dX12_above_19 (by decide) (fun _ => ?_) (fun c9 => absurd c9 (by decide))
  refine lv_iconst (v := 0) hx hb dX12_above_26 (by decide) ?_
  exact RP (v := 0) hC (rfl) rfl dX12_above_27
set_option maxHeartbeats 4000000 in
set_option maxRecDepth 100000 in
theorem m_above2 (l : Launch) (G : GG) : MP l G yX12_above cX12_above 1 (some .int) 1 [.int 2] [] (fun r : Int32 => r = 0) := by
  refine MP.start (by decide +kernel) (Nat.le_of_ble_eq_true rfl) ?_
  intro p e s m below meth c ls hC hK hP hD hl
  have hl : lv_has ls 1 [(0, .int 2)] := hl
  obtain ⟨hx, hb, hr, hml, hB, hown, hlocks, hnm⟩ := id hC
  refine lv_iload_n hx hb dX12_above_0 rfl (lv_at hl 0 rfl) ?_
  refine lv_iconst (v := 3) hx hb dX12_above_1 (by decide) ?_
  refine lv_icmp_ne (tgt := 9) hx hb dX12_above_2 (by decide) (fun _ => ?_) (fun c9 => absurd c9 (by decide))
  refine lv_iload_n hx hb dX12_above_9 rfl (lv_at hl 0 rfl) ?_
  refine lv_iconst (v := 5) hx hb dX12_above_10 (by decide) ?_
  refine lv_icmp_ne (tgt := 18) hx hb dX12_above_11 (by decide) (fun _ => ?_) (fun c9 => absurd c9 (by decide))
  refine lv_iload_n hx hb dX12_above_18 rfl (lv_at hl 0 rfl) ?_
  refine lv_if_ne (tgt := 26) hx hb dX12_above_19 (by decide) (fun _ => ?_) (fun c9 => absurd c9 (by decide))
  refine lv_iconst (v := 0) hx hb dX12_above_26 (by decide) ?_
  exact RP (v := 0) hC (rfl) rfl dX12_above_27
set_option maxHeartbeats 4000000 in
set_option maxRecDepth 100000 in
theorem m_above3 (l : Launch) (G : GG) : MP l G yX12_above cX12_above 1 (some .int) 1 [.int 3] [] (fun r : Int32 => r = 1) := by
  refine MP.start (by decide +kernel) (Nat.le_of_ble_eq_true rfl) ?_
  intro p e s m below meth c ls hC hK hP hD hl
  have hl : lv_has ls 1 [(0, .int 3)] := hl
  obtain ⟨hx, hb, hr, hml, hB, hown, hlocks, hnm⟩ := id hC
  refine lv_iload_n hx hb dX12_above_0 rfl (lv_at hl 0 rfl) ?_
  refine lv_iconst (v := 3) hx hb dX12_above_1 (by decide) ?_
  refine lv_icmp_ne (tgt := 9) hx hb dX12_above_2 (by decide) (fun c9 => absurd (by decide) c9) (fun _ => ?_)
  refine lv_iconst (v := 1) hx hb dX12_above_5 (by decide) ?_
  refine lv_goto (tgt := 27) hx hb dX12_above_6 (by decide) ?_
  exact RP (v := 1) hC (rfl) rfl dX12_above_27
set_option maxHeartbeats 4000000 in
set_option maxRecDepth 100000 in
theorem m_above4 (l : Launch) (G : GG) : MP l G yX12_above cX12_above 1 (some .int) 1 [.int 4] [] (fun r : Int32 => r = 0) := by
  refine MP.start (by decide +kernel) (Nat.le_of_ble_eq_true rfl) ?_
  intro p e s m below meth c ls hC hK hP hD hl
  have hl : lv_has ls 1 [(0, .int 4)] := hl
  obtain ⟨hx, hb, hr, hml, hB, hown, hlocks, hnm⟩ := id hC
  refine lv_iload_n hx hb dX12_above_0 rfl (lv_at hl 0 rfl) ?_
  refine lv_iconst (v := 3) hx hb dX12_above_1 (by decide) ?_
  refine lv_icmp_ne (tgt := 9) hx hb dX12_above_2 (by decide) (fun _ => ?_) (fun c9 => absurd c9 (by decide))
  refine lv_iload_n hx hb dX12_above_9 rfl (lv_at hl 0 rfl) ?_
  refine lv_iconst (v := 5) hx hb dX12_above_10 (by decide) ?_
  refine lv_icmp_ne (tgt := 18) hx hb dX12_above_11 (by decide) (fun _ => ?_) (fun c9 => absurd c9 (by decide))
  refine lv_iload_n hx hb dX12_above_18 rfl (lv_at hl 0 rfl) ?_
  refine lv_if_ne (tgt := 26) hx hb dX12_above_19 (by decide) (fun _ => ?_) (fun c9 => absurd c9 (by decide))
  refine lv_iconst (v := 0) hx hb dX12_above_26 (by decide) ?_
  exact RP (v := 0) hC (rfl) rfl dX12_above_27
set_option maxHeartbeats 4000000 in
set_option maxRecDepth 100000 in
theorem m_above5 (l : Launch) (G : GG) : MP l G yX12_above cX12_above 1 (some .int) 1 [.int 5] [] (fun r : Int32 => r = 4) := by
  refine MP.start (by decide +kernel) (Nat.le_of_ble_eq_true rfl) ?_
  intro p e s m below meth c ls hC hK hP hD hl
  have hl : lv_has ls 1 [(0, .int 5)] := hl
  obtain ⟨hx, hb, hr, hml, hB, hown, hlocks, hnm⟩ := id hC
  refine lv_iload_n hx hb dX12_above_0 rfl (lv_at hl 0 rfl) ?_
  refine lv_iconst (v := 3) hx hb dX12_above_1 (by decide) ?_
  refine lv_icmp_ne (tgt := 9) hx hb dX12_above_2 (by decide) (fun _ => ?_) (fun c9 => absurd c9 (by decide))
  refine lv_iload_n hx hb dX12_above_9 rfl (lv_at hl 0 rfl) ?_
  refine lv_iconst (v := 5) hx hb dX12_above_10 (by decide) ?_
  refine lv_icmp_ne (tgt := 18) hx hb dX12_above_11 (by decide) (fun c9 => absurd (by decide) c9) (fun _ => ?_)
  refine lv_iconst (v := 4) hx hb dX12_above_14 (by decide) ?_
  refine lv_goto (tgt := 27) hx hb dX12_above_15 (by decide) ?_
  exact RP (v := 4) hC (rfl) rfl dX12_above_27
set_option maxHeartbeats 4000000 in
set_option maxRecDepth 100000 in
theorem m_above6 (l : Launch) (G : GG) : MP l G yX12_above cX12_above 1 (some .int) 1 [.int 6] [] (fun r : Int32 => r = 0) := by
  refine MP.start (by decide +kernel) (Nat.le_of_ble_eq_true rfl) ?_
  intro p e s m below meth c ls hC hK hP hD hl
  have hl : lv_has ls 1 [(0, .int 6)] := hl
  obtain ⟨hx, hb, hr, hml, hB, hown, hlocks, hnm⟩ := id hC
  refine lv_iload_n hx hb dX12_above_0 rfl (lv_at hl 0 rfl) ?_
  refine lv_iconst (v := 3) hx hb dX12_above_1 (by decide) ?_
  refine lv_icmp_ne (tgt := 9) hx hb dX12_above_2 (by decide) (fun _ => ?_) (fun c9 => absurd c9 (by decide))
  refine lv_iload_n hx hb dX12_above_9 rfl (lv_at hl 0 rfl) ?_
  refine lv_iconst (v := 5) hx hb dX12_above_10 (by decide) ?_
  refine lv_icmp_ne (tgt := 18) hx hb dX12_above_11 (by decide) (fun _ => ?_) (fun c9 => absurd c9 (by decide))
  refine lv_iload_n hx hb dX12_above_18 rfl (lv_at hl 0 rfl) ?_
  refine lv_if_ne (tgt := 26) hx hb dX12_above_19 (by decide) (fun _ => ?_) (fun c9 => absurd c9 (by decide))
  refine lv_iconst (v := 0) hx hb dX12_above_26 (by decide) ?_
  exact RP (v := 0) hC (rfl) rfl dX12_above_27
set_option maxHeartbeats 4000000 in
set_option maxRecDepth 100000 in
theorem m_hasOwn00 (l : Launch) (G : GG) : MP l G yX12_hasOwn cX12_hasOwn 2 (some .boolean) 1 [.int 0, .int 0] [] (fun r : Int32 => r = 1) := by
  refine MP.start (by decide +kernel) (Nat.le_of_ble_eq_true rfl) ?_
  intro p e s m below meth c ls hC hK hP hD hl
  have hl : lv_has ls 2 [(0, .int 0), (1, .int 0)] := hl
  obtain ⟨hx, hb, hr, hml, hB, hown, hlocks, hnm⟩ := id hC
  refine lv_iload_n hx hb dX12_hasOwn_0 rfl (lv_at hl 0 rfl) ?_
  refine lv_tableIn (tgt := 40) hx hb dX12_hasOwn_1 (by decide) (by decide) rfl (by decide) ?_
  refine lv_iconst (v := 1) hx hb dX12_hasOwn_40 (by decide) ?_
  exact RP (v := 1) hC (rfl) (by decide +kernel) dX12_hasOwn_41
set_option maxHeartbeats 4000000 in
set_option maxRecDepth 100000 in
theorem m_hasOwn01 (l : Launch) (G : GG) : MP l G yX12_hasOwn cX12_hasOwn 2 (some .boolean) 1 [.int 0, .int 1] [] (fun r : Int32 => r = 1) := by
  refine MP.start (by decide +kernel) (Nat.le_of_ble_eq_true rfl) ?_
  intro p e s m below meth c ls hC hK hP hD hl
  have hl : lv_has ls 2 [(0, .int 0), (1, .int 1)] := hl
  obtain ⟨hx, hb, hr, hml, hB, hown, hlocks, hnm⟩ := id hC
  refine lv_iload_n hx hb dX12_hasOwn_0 rfl (lv_at hl 0 rfl) ?_
  refine lv_tableIn (tgt := 40) hx hb dX12_hasOwn_1 (by decide) (by decide) rfl (by decide) ?_
  refine lv_iconst (v := 1) hx hb dX12_hasOwn_40 (by decide) ?_
  exact RP (v := 1) hC (rfl) (by decide +kernel) dX12_hasOwn_41
set_option maxHeartbeats 4000000 in
set_option maxRecDepth 100000 in
theorem m_hasOwn02 (l : Launch) (G : GG) : MP l G yX12_hasOwn cX12_hasOwn 2 (some .boolean) 1 [.int 0, .int 2] [] (fun r : Int32 => r = 1) := by
  refine MP.start (by decide +kernel) (Nat.le_of_ble_eq_true rfl) ?_
  intro p e s m below meth c ls hC hK hP hD hl
  have hl : lv_has ls 2 [(0, .int 0), (1, .int 2)] := hl
  obtain ⟨hx, hb, hr, hml, hB, hown, hlocks, hnm⟩ := id hC
  refine lv_iload_n hx hb dX12_hasOwn_0 rfl (lv_at hl 0 rfl) ?_
  refine lv_tableIn (tgt := 40) hx hb dX12_hasOwn_1 (by decide) (by decide) rfl (by decide) ?_
  refine lv_iconst (v := 1) hx hb dX12_hasOwn_40 (by decide) ?_
  exact RP (v := 1) hC (rfl) (by decide +kernel) dX12_hasOwn_41
set_option maxHeartbeats 4000000 in
set_option maxRecDepth 100000 in
theorem m_hasOwn03 (l : Launch) (G : GG) : MP l G yX12_hasOwn cX12_hasOwn 2 (some .boolean) 1 [.int 0, .int 3] [] (fun r : Int32 => r = 1) := by
  refine MP.start (by decide +kernel) (Nat.le_of_ble_eq_true rfl) ?_
  intro p e s m below meth c ls hC hK hP hD hl
  have hl : lv_has ls 2 [(0, .int 0), (1, .int 3)] := hl
  obtain ⟨hx, hb, hr, hml, hB, hown, hlocks, hnm⟩ := id hC
  refine lv_iload_n hx hb dX12_hasOwn_0 rfl (lv_at hl 0 rfl) ?_
  refine lv_tableIn (tgt := 40) hx hb dX12_hasOwn_1 (by decide) (by decide) rfl (by decide) ?_
  refine lv_iconst (v := 1) hx hb dX12_hasOwn_40 (by decide) ?_
  exact RP (v := 1) hC (rfl) (by decide +kernel) dX12_hasOwn_41
set_option maxHeartbeats 4000000 in
set_option maxRecDepth 100000 in
theorem m_hasOwn10 (l : Launch) (G : GG) : MP l G yX12_hasOwn cX12_hasOwn 2 (some .boolean) 1 [.int 1, .int 0] [] (fun r : Int32 => r = 0) := by
  refine MP.start (by decide +kernel) (Nat.le_of_ble_eq_true rfl) ?_
  intro p e s m below meth c ls hC hK hP hD hl
  have hl : lv_has ls 2 [(0, .int 1), (1, .int 0)] := hl
  obtain ⟨hx, hb, hr, hml, hB, hown, hlocks, hnm⟩ := id hC
  refine lv_iload_n hx hb dX12_hasOwn_0 rfl (lv_at hl 0 rfl) ?_
  refine lv_tableIn (tgt := 42) hx hb dX12_hasOwn_1 (by decide) (by decide) rfl (by decide) ?_
  refine lv_iload_n hx hb dX12_hasOwn_42 rfl (lv_at hl 1 rfl) ?_
  refine lv_iconst (v := 1) hx hb dX12_hasOwn_43 (by decide) ?_
  refine lv_icmp_ne (tgt := 51) hx hb dX12_hasOwn_44 (by decide) (fun _ => ?_) (fun c9 => absurd c9 (by decide))
  refine lv_iconst (v := 0) hx hb dX12_hasOwn_51 (by decide) ?_
  exact RP (v := 0) hC (rfl) (by decide +kernel) dX12_hasOwn_52
set_option maxHeartbeats 4000000 in
set_option maxRecDepth 100000 in
theorem m_hasOwn11 (l : Launch) (G : GG) : MP l G yX12_hasOwn cX12_hasOwn 2 (some .boolean) 1 [.int 1, .int 1] [] (fun r : Int32 => r = 1) := by
  refine MP.start (by decide +kernel) (Nat.le_of_ble_eq_true rfl) ?_
  intro p e s m below meth c ls hC hK hP hD hl
  have hl : lv_has ls 2 [(0, .int 1), (1, .int 1)] := hl
  obtain ⟨hx, hb, hr, hml, hB, hown, hlocks, hnm⟩ := id hC
  refine lv_iload_n hx hb dX12_hasOwn_0 rfl (lv_at hl 0 rfl) ?_
  refine lv_tableIn (tgt := 42) hx hb dX12_hasOwn_1 (by decide) (by decide) rfl (by decide) ?_
  refine lv_iload_n hx hb dX12_hasOwn_42 rfl (lv_at hl 1 rfl) ?_
  refine lv_iconst (v := 1) hx hb dX12_hasOwn_43 (by decide) ?_
  refine lv_icmp_ne (tgt := 51) hx hb dX12_hasOwn_44 (by decide) (fun c9 => absurd (by decide) c9) (fun _ => ?_)
  refine lv_iconst (v := 1) hx hb dX12_hasOwn_47 (by decide) ?_
  refine lv_goto (tgt := 52) hx hb dX12_hasOwn_48 (by decide) ?_
  exact RP (v := 1) hC (rfl) (by decide +kernel) dX12_hasOwn_52
set_option maxHeartbeats 4000000 in
set_option maxRecDepth 100000 in
theorem m_hasOwn12 (l : Launch) (G : GG) : MP l G yX12_hasOwn cX12_hasOwn 2 (some .boolean) 1 [.int 1, .int 2] [] (fun r : Int32 => r = 0) := by
  refine MP.start (by decide +kernel) (Nat.le_of_ble_eq_true rfl) ?_
  intro p e s m below meth c ls hC hK hP hD hl
  have hl : lv_has ls 2 [(0, .int 1), (1, .int 2)] := hl
  obtain ⟨hx, hb, hr, hml, hB, hown, hlocks, hnm⟩ := id hC
  refine lv_iload_n hx hb dX12_hasOwn_0 rfl (lv_at hl 0 rfl) ?_
  refine lv_tableIn (tgt := 42) hx hb dX12_hasOwn_1 (by decide) (by decide) rfl (by decide) ?_
  refine lv_iload_n hx hb dX12_hasOwn_42 rfl (lv_at hl 1 rfl) ?_
  refine lv_iconst (v := 1) hx hb dX12_hasOwn_43 (by decide) ?_
  refine lv_icmp_ne (tgt := 51) hx hb dX12_hasOwn_44 (by decide) (fun _ => ?_) (fun c9 => absurd c9 (by decide))
  refine lv_iconst (v := 0) hx hb dX12_hasOwn_51 (by decide) ?_
  exact RP (v := 0) hC (rfl) (by decide +kernel) dX12_hasOwn_52
set_option maxHeartbeats 4000000 in
set_option maxRecDepth 100000 in
theorem m_hasOwn13 (l : Launch) (G : GG) : MP l G yX12_hasOwn cX12_hasOwn 2 (some .boolean) 1 [.int 1, .int 3] [] (fun r : Int32 => r = 0) := by
  refine MP.start (by decide +kernel) (Nat.le_of_ble_eq_true rfl) ?_
  intro p e s m below meth c ls hC hK hP hD hl
  have hl : lv_has ls 2 [(0, .int 1), (1, .int 3)] := hl
  obtain ⟨hx, hb, hr, hml, hB, hown, hlocks, hnm⟩ := id hC
  refine lv_iload_n hx hb dX12_hasOwn_0 rfl (lv_at hl 0 rfl) ?_
  refine lv_tableIn (tgt := 42) hx hb dX12_hasOwn_1 (by decide) (by decide) rfl (by decide) ?_
  refine lv_iload_n hx hb dX12_hasOwn_42 rfl (lv_at hl 1 rfl) ?_
  refine lv_iconst (v := 1) hx hb dX12_hasOwn_43 (by decide) ?_
  refine lv_icmp_ne (tgt := 51) hx hb dX12_hasOwn_44 (by decide) (fun _ => ?_) (fun c9 => absurd c9 (by decide))
  refine lv_iconst (v := 0) hx hb dX12_hasOwn_51 (by decide) ?_
  exact RP (v := 0) hC (rfl) (by decide +kernel) dX12_hasOwn_52
set_option maxHeartbeats 4000000 in
set_option maxRecDepth 100000 in
theorem m_hasOwn20 (l : Launch) (G : GG) : MP l G yX12_hasOwn cX12_hasOwn 2 (some .boolean) 1 [.int 2, .int 0] [] (fun r : Int32 => r = 0) := by
  refine MP.start (by decide +kernel) (Nat.le_of_ble_eq_true rfl) ?_
  intro p e s m below meth c ls hC hK hP hD hl
  have hl : lv_has ls 2 [(0, .int 2), (1, .int 0)] := hl
  obtain ⟨hx, hb, hr, hml, hB, hown, hlocks, hnm⟩ := id hC
  refine lv_iload_n hx hb dX12_hasOwn_0 rfl (lv_at hl 0 rfl) ?_
  refine lv_tableIn (tgt := 53) hx hb dX12_hasOwn_1 (by decide) (by decide) rfl (by decide) ?_
  refine lv_iload_n hx hb dX12_hasOwn_53 rfl (lv_at hl 1 rfl) ?_
  refine lv_iconst (v := 2) hx hb dX12_hasOwn_54 (by decide) ?_
  refine lv_icmp_ne (tgt := 62) hx hb dX12_hasOwn_55 (by decide) (fun _ => ?_) (fun c9 => absurd c9 (by decide))
  refine lv_iconst (v := 0) hx hb dX12_hasOwn_62 (by decide) ?_
  exact RP (v := 0) hC (rfl) (by decide +kernel) dX12_hasOwn_63
set_option maxHeartbeats 4000000 in
set_option maxRecDepth 100000 in
theorem m_hasOwn21 (l : Launch) (G : GG) : MP l G yX12_hasOwn cX12_hasOwn 2 (some .boolean) 1 [.int 2, .int 1] [] (fun r : Int32 => r = 0) := by
  refine MP.start (by decide +kernel) (Nat.le_of_ble_eq_true rfl) ?_
  intro p e s m below meth c ls hC hK hP hD hl
  have hl : lv_has ls 2 [(0, .int 2), (1, .int 1)] := hl
  obtain ⟨hx, hb, hr, hml, hB, hown, hlocks, hnm⟩ := id hC
  refine lv_iload_n hx hb dX12_hasOwn_0 rfl (lv_at hl 0 rfl) ?_
  refine lv_tableIn (tgt := 53) hx hb dX12_hasOwn_1 (by decide) (by decide) rfl (by decide) ?_
  refine lv_iload_n hx hb dX12_hasOwn_53 rfl (lv_at hl 1 rfl) ?_
  refine lv_iconst (v := 2) hx hb dX12_hasOwn_54 (by decide) ?_
  refine lv_icmp_ne (tgt := 62) hx hb dX12_hasOwn_55 (by decide) (fun _ => ?_) (fun c9 => absurd c9 (by decide))
  refine lv_iconst (v := 0) hx hb dX12_hasOwn_62 (by decide) ?_
  exact RP (v := 0) hC (rfl) (by decide +kernel) dX12_hasOwn_63
set_option maxHeartbeats 4000000 in
set_option maxRecDepth 100000 in
theorem m_hasOwn22 (l : Launch) (G : GG) : MP l G yX12_hasOwn cX12_hasOwn 2 (some .boolean) 1 [.int 2, .int 2] [] (fun r : Int32 => r = 1) := by
  refine MP.start (by decide +kernel) (Nat.le_of_ble_eq_true rfl) ?_
  intro p e s m below meth c ls hC hK hP hD hl
  have hl : lv_has ls 2 [(0, .int 2), (1, .int 2)] := hl
  obtain ⟨hx, hb, hr, hml, hB, hown, hlocks, hnm⟩ := id hC
  refine lv_iload_n hx hb dX12_hasOwn_0 rfl (lv_at hl 0 rfl) ?_
  refine lv_tableIn (tgt := 53) hx hb dX12_hasOwn_1 (by decide) (by decide) rfl (by decide) ?_
  refine lv_iload_n hx hb dX12_hasOwn_53 rfl (lv_at hl 1 rfl) ?_
  refine lv_iconst (v := 2) hx hb dX12_hasOwn_54 (by decide) ?_
  refine lv_icmp_ne (tgt := 62) hx hb dX12_hasOwn_55 (by decide) (fun c9 => absurd (by decide) c9) (fun _ => ?_)
  refine lv_iconst (v := 1) hx hb dX12_hasOwn_58 (by decide) ?_
  refine lv_goto (tgt := 63) hx hb dX12_hasOwn_59 (by decide) ?_
  exact RP (v := 1) hC (rfl) (by decide +kernel) dX12_hasOwn_63
set_option maxHeartbeats 4000000 in
set_option maxRecDepth 100000 in
theorem m_hasOwn23 (l : Launch) (G : GG) : MP l G yX12_hasOwn cX12_hasOwn 2 (some .boolean) 1 [.int 2, .int 3] [] (fun r : Int32 => r = 0) := by
  refine MP.start (by decide +kernel) (Nat.le_of_ble_eq_true rfl) ?_
  intro p e s m below meth c ls hC hK hP hD hl
  have hl : lv_has ls 2 [(0, .int 2), (1, .int 3)] := hl
  obtain ⟨hx, hb, hr, hml, hB, hown, hlocks, hnm⟩ := id hC
  refine lv_iload_n hx hb dX12_hasOwn_0 rfl (lv_at hl 0 rfl) ?_
  refine lv_tableIn (tgt := 53) hx hb dX12_hasOwn_1 (by decide) (by decide) rfl (by decide) ?_
  refine lv_iload_n hx hb dX12_hasOwn_53 rfl (lv_at hl 1 rfl) ?_
  refine lv_iconst (v := 2) hx hb dX12_hasOwn_54 (by decide) ?_
  refine lv_icmp_ne (tgt := 62) hx hb dX12_hasOwn_55 (by decide) (fun _ => ?_) (fun c9 => absurd c9 (by decide))
  refine lv_iconst (v := 0) hx hb dX12_hasOwn_62 (by decide) ?_
  exact RP (v := 0) hC (rfl) (by decide +kernel) dX12_hasOwn_63
set_option maxHeartbeats 4000000 in
set_option maxRecDepth 100000 in
theorem m_hasOwn30 (l : Launch) (G : GG) : MP l G yX12_hasOwn cX12_hasOwn 2 (some .boolean) 1 [.int 3, .int 0] [] (fun r : Int32 => r = 0) := by
  refine MP.start (by decide +kernel) (Nat.le_of_ble_eq_true rfl) ?_
  intro p e s m below meth c ls hC hK hP hD hl
  have hl : lv_has ls 2 [(0, .int 3), (1, .int 0)] := hl
  obtain ⟨hx, hb, hr, hml, hB, hown, hlocks, hnm⟩ := id hC
  refine lv_iload_n hx hb dX12_hasOwn_0 rfl (lv_at hl 0 rfl) ?_
  refine lv_tableIn (tgt := 64) hx hb dX12_hasOwn_1 (by decide) (by decide) rfl (by decide) ?_
  refine lv_iload_n hx hb dX12_hasOwn_64 rfl (lv_at hl 1 rfl) ?_
  refine lv_iconst (v := 1) hx hb dX12_hasOwn_65 (by decide) ?_
  refine lv_icmp_eq (tgt := 74) hx hb dX12_hasOwn_66 (by decide) (fun c9 => absurd c9 (by decide)) (fun _ => ?_)
  refine lv_iload_n hx hb dX12_hasOwn_69 rfl (lv_at hl 1 rfl) ?_
  refine lv_iconst (v := 3) hx hb dX12_hasOwn_70 (by decide) ?_
  refine lv_icmp_ne (tgt := 78) hx hb dX12_hasOwn_71 (by decide) (fun _ => ?_) (fun c9 => absurd c9 (by decide))
  refine lv_iconst (v := 0) hx hb dX12_hasOwn_78 (by decide) ?_
  exact RP (v := 0) hC (rfl) (by decide +kernel) dX12_hasOwn_79
set_option maxHeartbeats 4000000 in
set_option maxRecDepth 100000 in
theorem m_hasOwn31 (l : Launch) (G : GG) : MP l G yX12_hasOwn cX12_hasOwn 2 (some .boolean) 1 [.int 3, .int 1] [] (fun r : Int32 => r = 1) := by
  refine MP.start (by decide +kernel) (Nat.le_of_ble_eq_true rfl) ?_
  intro p e s m below meth c ls hC hK hP hD hl
  have hl : lv_has ls 2 [(0, .int 3), (1, .int 1)] := hl
  obtain ⟨hx, hb, hr, hml, hB, hown, hlocks, hnm⟩ := id hC
  refine lv_iload_n hx hb dX12_hasOwn_0 rfl (lv_at hl 0 rfl) ?_
  refine lv_tableIn (tgt := 64) hx hb dX12_hasOwn_1 (by decide) (by decide) rfl (by decide) ?_
  refine lv_iload_n hx hb dX12_hasOwn_64 rfl (lv_at hl 1 rfl) ?_
  refine lv_iconst (v := 1) hx hb dX12_hasOwn_65 (by decide) ?_
  refine lv_icmp_eq (tgt := 74) hx hb dX12_hasOwn_66 (by decide) (fun _ => ?_) (fun c9 => absurd (by decide) c9)
  refine lv_iconst (v := 1) hx hb dX12_hasOwn_74 (by decide) ?_
  refine lv_goto (tgt := 79) hx hb dX12_hasOwn_75 (by decide) ?_
  exact RP (v := 1) hC (rfl) (by decide +kernel) dX12_hasOwn_79
set_option maxHeartbeats 4000000 in
set_option maxRecDepth 100000 in
theorem m_hasOwn32 (l : Launch) (G : GG) : MP l G yX12_hasOwn cX12_hasOwn 2 (some .boolean) 1 [.int 3, .int 2] [] (fun r : Int32 => r = 0) := by
  refine MP.start (by decide +kernel) (Nat.le_of_ble_eq_true rfl) ?_
  intro p e s m below meth c ls hC hK hP hD hl
  have hl : lv_has ls 2 [(0, .int 3), (1, .int 2)] := hl
  obtain ⟨hx, hb, hr, hml, hB, hown, hlocks, hnm⟩ := id hC
  refine lv_iload_n hx hb dX12_hasOwn_0 rfl (lv_at hl 0 rfl) ?_
  refine lv_tableIn (tgt := 64) hx hb dX12_hasOwn_1 (by decide) (by decide) rfl (by decide) ?_
  refine lv_iload_n hx hb dX12_hasOwn_64 rfl (lv_at hl 1 rfl) ?_
  refine lv_iconst (v := 1) hx hb dX12_hasOwn_65 (by decide) ?_
  refine lv_icmp_eq (tgt := 74) hx hb dX12_hasOwn_66 (by decide) (fun c9 => absurd c9 (by decide)) (fun _ => ?_)
  refine lv_iload_n hx hb dX12_hasOwn_69 rfl (lv_at hl 1 rfl) ?_
  refine lv_iconst (v := 3) hx hb dX12_hasOwn_70 (by decide) ?_
  refine lv_icmp_ne (tgt := 78) hx hb dX12_hasOwn_71 (by decide) (fun _ => ?_) (fun c9 => absurd c9 (by decide))
  refine lv_iconst (v := 0) hx hb dX12_hasOwn_78 (by decide) ?_
  exact RP (v := 0) hC (rfl) (by decide +kernel) dX12_hasOwn_79
set_option maxHeartbeats 4000000 in
set_option maxRecDepth 100000 in
theorem m_hasOwn33 (l : Launch) (G : GG) : MP l G yX12_hasOwn cX12_hasOwn 2 (some .boolean) 1 [.int 3, .int 3] [] (fun r : Int32 => r = 1) := by
  refine MP.start (by decide +kernel) (Nat.le_of_ble_eq_true rfl) ?_
  intro p e s m below meth c ls hC hK hP hD hl
  have hl : lv_has ls 2 [(0, .int 3), (1, .int 3)] := hl
  obtain ⟨hx, hb, hr, hml, hB, hown, hlocks, hnm⟩ := id hC
  refine lv_iload_n hx hb dX12_hasOwn_0 rfl (lv_at hl 0 rfl) ?_
  refine lv_tableIn (tgt := 64) hx hb dX12_hasOwn_1 (by decide) (by decide) rfl (by decide) ?_
  refine lv_iload_n hx hb dX12_hasOwn_64 rfl (lv_at hl 1 rfl) ?_
  refine lv_iconst (v := 1) hx hb dX12_hasOwn_65 (by decide) ?_
  refine lv_icmp_eq (tgt := 74) hx hb dX12_hasOwn_66 (by decide) (fun c9 => absurd c9 (by decide)) (fun _ => ?_)
  refine lv_iload_n hx hb dX12_hasOwn_69 rfl (lv_at hl 1 rfl) ?_
  refine lv_iconst (v := 3) hx hb dX12_hasOwn_70 (by decide) ?_
  refine lv_icmp_ne (tgt := 78) hx hb dX12_hasOwn_71 (by decide) (fun c9 => absurd (by decide) c9) (fun _ => ?_)
  refine lv_iconst (v := 1) hx hb dX12_hasOwn_74 (by decide) ?_
  refine lv_goto (tgt := 79) hx hb dX12_hasOwn_75 (by decide) ?_
  exact RP (v := 1) hC (rfl) (by decide +kernel) dX12_hasOwn_79
set_option maxHeartbeats 4000000 in
set_option maxRecDepth 100000 in
theorem m_hasOwn40 (l : Launch) (G : GG) : MP l G yX12_hasOwn cX12_hasOwn 2 (some .boolean) 1 [.int 4, .int 0] [] (fun r : Int32 => r = 1) := by
  refine MP.start (by decide +kernel) (Nat.le_of_ble_eq_true rfl) ?_
  intro p e s m below meth c ls hC hK hP hD hl
  have hl : lv_has ls 2 [(0, .int 4), (1, .int 0)] := hl
  obtain ⟨hx, hb, hr, hml, hB, hown, hlocks, hnm⟩ := id hC
  refine lv_iload_n hx hb dX12_hasOwn_0 rfl (lv_at hl 0 rfl) ?_
  refine lv_tableIn (tgt := 80) hx hb dX12_hasOwn_1 (by decide) (by decide) rfl (by decide) ?_
  refine lv_iload_n hx hb dX12_hasOwn_80 rfl (lv_at hl 1 rfl) ?_
  refine lv_if_eq (tgt := 89) hx hb dX12_hasOwn_81 (by decide) (fun _ => ?_) (fun c9 => absurd (by decide) c9)
  refine lv_iconst (v := 1) hx hb dX12_hasOwn_89 (by decide) ?_
  refine lv_goto (tgt := 94) hx hb dX12_hasOwn_90 (by decide) ?_
  exact RP (v := 1) hC (rfl) (by decide +kernel) dX12_hasOwn_94
set_option maxHeartbeats 4000000 in
set_option maxRecDepth 100000 in
theorem m_hasOwn41 (l : Launch) (G : GG) : MP l G yX12_hasOwn cX12_hasOwn 2 (some .boolean) 1 [.int 4, .int 1] [] (fun r : Int32 => r = 0) := by
  refine MP.start (by decide +kernel) (Nat.le_of_ble_eq_true rfl) ?_
  intro p e s m below meth c ls hC hK hP hD hl
  have hl : lv_has ls 2 [(0, .int 4), (1, .int 1)] := hl
  obtain ⟨hx, hb, hr, hml, hB, hown, hlocks, hnm⟩ := id hC
  refine lv_iload_n hx hb dX12_hasOwn_0 rfl (lv_at hl 0 rfl) ?_
  refine lv_tableIn (tgt := 80) hx hb dX12_hasOwn_1 (by decide) (by decide) rfl (by decide) ?_
  refine lv_iload_n hx hb dX12_hasOwn_80 rfl (lv_at hl 1 rfl) ?_
  refine lv_if_eq (tgt := 89) hx hb dX12_hasOwn_81 (by decide) (fun c9 => absurd c9 (by decide)) (fun _ => ?_)
  refine lv_iload_n hx hb dX12_hasOwn_84 rfl (lv_at hl 1 rfl) ?_
  refine lv_iconst (v := 2) hx hb dX12_hasOwn_85 (by decide) ?_
  refine lv_icmp_ne (tgt := 93) hx hb dX12_hasOwn_86 (by decide) (fun _ => ?_) (fun c9 => absurd c9 (by decide))
  refine lv_iconst (v := 0) hx hb dX12_hasOwn_93 (by decide) ?_
  exact RP (v := 0) hC (rfl) (by decide +kernel) dX12_hasOwn_94
set_option maxHeartbeats 4000000 in
set_option maxRecDepth 100000 in
theorem m_hasOwn42 (l : Launch) (G : GG) : MP l G yX12_hasOwn cX12_hasOwn 2 (some .boolean) 1 [.int 4, .int 2] [] (fun r : Int32 => r = 1) := by
  refine MP.start (by decide +kernel) (Nat.le_of_ble_eq_true rfl) ?_
  intro p e s m below meth c ls hC hK hP hD hl
  have hl : lv_has ls 2 [(0, .int 4), (1, .int 2)] := hl
  obtain ⟨hx, hb, hr, hml, hB, hown, hlocks, hnm⟩ := id hC
  refine lv_iload_n hx hb dX12_hasOwn_0 rfl (lv_at hl 0 rfl) ?_
  refine lv_tableIn (tgt := 80) hx hb dX12_hasOwn_1 (by decide) (by decide) rfl (by decide) ?_
  refine lv_iload_n hx hb dX12_hasOwn_80 rfl (lv_at hl 1 rfl) ?_
  refine lv_if_eq (tgt := 89) hx hb dX12_hasOwn_81 (by decide) (fun c9 => absurd c9 (by decide)) (fun _ => ?_)
  refine lv_iload_n hx hb dX12_hasOwn_84 rfl (lv_at hl 1 rfl) ?_
  refine lv_iconst (v := 2) hx hb dX12_hasOwn_85 (by decide) ?_
  refine lv_icmp_ne (tgt := 93) hx hb dX12_hasOwn_86 (by decide) (fun c9 => absurd (by decide) c9) (fun _ => ?_)
  refine lv_iconst (v := 1) hx hb dX12_hasOwn_89 (by decide) ?_
  refine lv_goto (tgt := 94) hx hb dX12_hasOwn_90 (by decide) ?_
  exact RP (v := 1) hC (rfl) (by decide +kernel) dX12_hasOwn_94
set_option maxHeartbeats 4000000 in
set_option maxRecDepth 100000 in
theorem m_hasOwn43 (l : Launch) (G : GG) : MP l G yX12_hasOwn cX12_hasOwn 2 (some .boolean) 1 [.int 4, .int 3] [] (fun r : Int32 => r = 0) := by
  refine MP.start (by decide +kernel) (Nat.le_of_ble_eq_true rfl) ?_
  intro p e s m below meth c ls hC hK hP hD hl
  have hl : lv_has ls 2 [(0, .int 4), (1, .int 3)] := hl
  obtain ⟨hx, hb, hr, hml, hB, hown, hlocks, hnm⟩ := id hC
  refine lv_iload_n hx hb dX12_hasOwn_0 rfl (lv_at hl 0 rfl) ?_
  refine lv_tableIn (tgt := 80) hx hb dX12_hasOwn_1 (by decide) (by decide) rfl (by decide) ?_
  refine lv_iload_n hx hb dX12_hasOwn_80 rfl (lv_at hl 1 rfl) ?_
  refine lv_if_eq (tgt := 89) hx hb dX12_hasOwn_81 (by decide) (fun c9 => absurd c9 (by decide)) (fun _ => ?_)
  refine lv_iload_n hx hb dX12_hasOwn_84 rfl (lv_at hl 1 rfl) ?_
  refine lv_iconst (v := 2) hx hb dX12_hasOwn_85 (by decide) ?_
  refine lv_icmp_ne (tgt := 93) hx hb dX12_hasOwn_86 (by decide) (fun _ => ?_) (fun c9 => absurd c9 (by decide))
  refine lv_iconst (v := 0) hx hb dX12_hasOwn_93 (by decide) ?_
  exact RP (v := 0) hC (rfl) (by decide +kernel) dX12_hasOwn_94
set_option maxHeartbeats 4000000 in
set_option maxRecDepth 100000 in
theorem m_hasOwn50 (l : Launch) (G : GG) : MP l G yX12_hasOwn cX12_hasOwn 2 (some .boolean) 1 [.int 5, .int 0] [] (fun r : Int32 => r = 1) := by
  refine MP.start (by decide +kernel) (Nat.le_of_ble_eq_true rfl) ?_
  intro p e s m below meth c ls hC hK hP hD hl
  have hl : lv_has ls 2 [(0, .int 5), (1, .int 0)] := hl
  obtain ⟨hx, hb, hr, hml, hB, hown, hlocks, hnm⟩ := id hC
  refine lv_iload_n hx hb dX12_hasOwn_0 rfl (lv_at hl 0 rfl) ?_
  refine lv_tableIn (tgt := 80) hx hb dX12_hasOwn_1 (by decide) (by decide) rfl (by decide) ?_
  refine lv_iload_n hx hb dX12_hasOwn_80 rfl (lv_at hl 1 rfl) ?_
  refine lv_if_eq (tgt := 89) hx hb dX12_hasOwn_81 (by decide) (fun _ => ?_) (fun c9 => absurd (by decide) c9)
  refine lv_iconst (v := 1) hx hb dX12_hasOwn_89 (by decide) ?_
  refine lv_goto (tgt := 94) hx hb dX12_hasOwn_90 (by decide) ?_
  exact RP (v := 1) hC (rfl) (by decide +kernel) dX12_hasOwn_94
set_option maxHeartbeats 4000000 in
set_option maxRecDepth 100000 in
theorem m_hasOwn51 (l : Launch) (G : GG) : MP l G yX12_hasOwn cX12_hasOwn 2 (some .boolean) 1 [.int 5, .int 1] [] (fun r : Int32 => r = 0) := by
  refine MP.start (by decide +kernel) (Nat.le_of_ble_eq_true rfl) ?_
  intro p e s m below meth c ls hC hK hP hD hl
  have hl : lv_has ls 2 [(0, .int 5), (1, .int 1)] := hl
  obtain ⟨hx, hb, hr, hml, hB, hown, hlocks, hnm⟩ := id hC
  refine lv_iload_n hx hb dX12_hasOwn_0 rfl (lv_at hl 0 rfl) ?_
  refine lv_tableIn (tgt := 80) hx hb dX12_hasOwn_1 (by decide) (by decide) rfl (by decide) ?_
  refine lv_iload_n hx hb dX12_hasOwn_80 rfl (lv_at hl 1 rfl) ?_
  refine lv_if_eq (tgt := 89) hx hb dX12_hasOwn_81 (by decide) (fun c9 => absurd c9 (by decide)) (fun _ => ?_)
  refine lv_iload_n hx hb dX12_hasOwn_84 rfl (lv_at hl 1 rfl) ?_
  refine lv_iconst (v := 2) hx hb dX12_hasOwn_85 (by decide) ?_
  refine lv_icmp_ne (tgt := 93) hx hb dX12_hasOwn_86 (by decide) (fun _ => ?_) (fun c9 => absurd c9 (by decide))
  refine lv_iconst (v := 0) hx hb dX12_hasOwn_93 (by decide) ?_
  exact RP (v := 0) hC (rfl) (by decide +kernel) dX12_hasOwn_94
set_option maxHeartbeats 4000000 in
set_option maxRecDepth 100000 in
theorem m_hasOwn52 (l : Launch) (G : GG) : MP l G yX12_hasOwn cX12_hasOwn 2 (some .boolean) 1 [.int 5, .int 2] [] (fun r : Int32 => r = 1) := by
  refine MP.start (by decide +kernel) (Nat.le_of_ble_eq_true rfl) ?_
  intro p e s m below meth c ls hC hK hP hD hl
  have hl : lv_has ls 2 [(0, .int 5), (1, .int 2)] := hl
  obtain ⟨hx, hb, hr, hml, hB, hown, hlocks, hnm⟩ := id hC
  refine lv_iload_n hx hb dX12_hasOwn_0 rfl (lv_at hl 0 rfl) ?_
  refine lv_tableIn (tgt := 80) hx hb dX12_hasOwn_1 (by decide) (by decide) rfl (by decide) ?_
  refine lv_iload_n hx hb dX12_hasOwn_80 rfl (lv_at hl 1 rfl) ?_
  refine lv_if_eq (tgt := 89) hx hb dX12_hasOwn_81 (by decide) (fun c9 => absurd c9 (by decide)) (fun _ => ?_)
  refine lv_iload_n hx hb dX12_hasOwn_84 rfl (lv_at hl 1 rfl) ?_
  refine lv_iconst (v := 2) hx hb dX12_hasOwn_85 (by decide) ?_
  refine lv_icmp_ne (tgt := 93) hx hb dX12_hasOwn_86 (by decide) (fun c9 => absurd (by decide) c9) (fun _ => ?_)
  refine lv_iconst (v := 1) hx hb dX12_hasOwn_89 (by decide) ?_
  refine lv_goto (tgt := 94) hx hb dX12_hasOwn_90 (by decide) ?_
  exact RP (v := 1) hC (rfl) (by decide +kernel) dX12_hasOwn_94
set_option maxHeartbeats 4000000 in
set_option maxRecDepth 100000 in
theorem m_hasOwn53 (l : Launch) (G : GG) : MP l G yX12_hasOwn cX12_hasOwn 2 (some .boolean) 1 [.int 5, .int 3] [] (fun r : Int32 => r = 0) := by
  refine MP.start (by decide +kernel) (Nat.le_of_ble_eq_true rfl) ?_
  intro p e s m below meth c ls hC hK hP hD hl
  have hl : lv_has ls 2 [(0, .int 5), (1, .int 3)] := hl
  obtain ⟨hx, hb, hr, hml, hB, hown, hlocks, hnm⟩ := id hC
  refine lv_iload_n hx hb dX12_hasOwn_0 rfl (lv_at hl 0 rfl) ?_
  refine lv_tableIn (tgt := 80) hx hb dX12_hasOwn_1 (by decide) (by decide) rfl (by decide) ?_
  refine lv_iload_n hx hb dX12_hasOwn_80 rfl (lv_at hl 1 rfl) ?_
  refine lv_if_eq (tgt := 89) hx hb dX12_hasOwn_81 (by decide) (fun c9 => absurd c9 (by decide)) (fun _ => ?_)
  refine lv_iload_n hx hb dX12_hasOwn_84 rfl (lv_at hl 1 rfl) ?_
  refine lv_iconst (v := 2) hx hb dX12_hasOwn_85 (by decide) ?_
  refine lv_icmp_ne (tgt := 93) hx hb dX12_hasOwn_86 (by decide) (fun _ => ?_) (fun c9 => absurd c9 (by decide))
  refine lv_iconst (v := 0) hx hb dX12_hasOwn_93 (by decide) ?_
  exact RP (v := 0) hC (rfl) (by decide +kernel) dX12_hasOwn_94
set_option maxHeartbeats 4000000 in
set_option maxRecDepth 100000 in
theorem m_hasOwn60 (l : Launch) (G : GG) : MP l G yX12_hasOwn cX12_hasOwn 2 (some .boolean) 1 [.int 6, .int 0] [] (fun r : Int32 => r = 0) := by
  refine MP.start (by decide +kernel) (Nat.le_of_ble_eq_true rfl) ?_
  intro p e s m below meth c ls hC hK hP hD hl
  have hl : lv_has ls 2 [(0, .int 6), (1, .int 0)] := hl
  obtain ⟨hx, hb, hr, hml, hB, hown, hlocks, hnm⟩ := id hC
  refine lv_iload_n hx hb dX12_hasOwn_0 rfl (lv_at hl 0 rfl) ?_
  refine lv_tableOut (tgt := 95) hx hb dX12_hasOwn_1 (by decide) (by decide) ?_
  refine lv_iload_n hx hb dX12_hasOwn_95 rfl (lv_at hl 1 rfl) ?_
  refine lv_iconst (v := 3) hx hb dX12_hasOwn_96 (by decide) ?_
  refine lv_icmp_ne (tgt := 104) hx hb dX12_hasOwn_97 (by decide) (fun _ => ?_) (fun c9 => absurd c9 (by decide))
  refine lv_iconst (v := 0) hx hb dX12_hasOwn_104 (by decide) ?_
  exact RP (v := 0) hC (rfl) (by decide +kernel) dX12_hasOwn_105
set_option maxHeartbeats 4000000 in
set_option maxRecDepth 100000 in
theorem m_hasOwn61 (l : Launch) (G : GG) : MP l G yX12_hasOwn cX12_hasOwn 2 (some .boolean) 1 [.int 6, .int 1] [] (fun r : Int32 => r = 0) := by
  refine MP.start (by decide +kernel) (Nat.le_of_ble_eq_true rfl) ?_
  intro p e s m below meth c ls hC hK hP hD hl
  have hl : lv_has ls 2 [(0, .int 6), (1, .int 1)] := hl
  obtain ⟨hx, hb, hr, hml, hB, hown, hlocks, hnm⟩ := id hC
  refine lv_iload_n hx hb dX12_hasOwn_0 rfl (lv_at hl 0 rfl) ?_
  refine lv_tableOut (tgt := 95) hx hb dX12_hasOwn_1 (by decide) (by decide) ?_
  refine lv_iload_n hx hb dX12_hasOwn_95 rfl (lv_at hl 1 rfl) ?_
  refine lv_iconst (v := 3) hx hb dX12_hasOwn_96 (by decide) ?_
  refine lv_icmp_ne (tgt := 104) hx hb dX12_hasOwn_97 (by decide) (fun _ => ?_) (fun c9 => absurd c9 (by decide))
  refine lv_iconst (v := 0) hx hb dX12_hasOwn_104 (by decide) ?_
  exact RP (v := 0) hC (rfl) (by decide +kernel) dX12_hasOwn_105
set_option maxHeartbeats 4000000 in
set_option maxRecDepth 100000 in
theorem m_hasOwn62 (l : Launch) (G : GG) : MP l G yX12_hasOwn cX12_hasOwn 2 (some .boolean) 1 [.int 6, .int 2] [] (fun r : Int32 => r = 0) := by
  refine MP.start (by decide +kernel) (Nat.le_of_ble_eq_true rfl) ?_
  intro p e s m below meth c ls hC hK hP hD hl
  have hl : lv_has ls 2 [(0, .int 6), (1, .int 2)] := hl
  obtain ⟨hx, hb, hr, hml, hB, hown, hlocks, hnm⟩ := id hC
  refine lv_iload_n hx hb dX12_hasOwn_0 rfl (lv_at hl 0 rfl) ?_
  refine lv_tableOut (tgt := 95) hx hb dX12_hasOwn_1 (by decide) (by decide) ?_
  refine lv_iload_n hx hb dX12_hasOwn_95 rfl (lv_at hl 1 rfl) ?_
  refine lv_iconst (v := 3) hx hb dX12_hasOwn_96 (by decide) ?_
  refine lv_icmp_ne (tgt := 104) hx hb dX12_hasOwn_97 (by decide) (fun _ => ?_) (fun c9 => absurd c9 (by decide))
  refine lv_iconst (v := 0) hx hb dX12_hasOwn_104 (by decide) ?_
  exact RP (v := 0) hC (rfl) (by decide +kernel) dX12_hasOwn_105
set_option maxHeartbeats 4000000 in
set_option maxRecDepth 100000 in
theorem m_hasOwn63 (l : Launch) (G : GG) : MP l G yX12_hasOwn cX12_hasOwn 2 (some .boolean) 1 [.int 6, .int 3] [] (fun r : Int32 => r = 1) := by
  refine MP.start (by decide +kernel) (Nat.le_of_ble_eq_true rfl) ?_
  intro p e s m below meth c ls hC hK hP hD hl
  have hl : lv_has ls 2 [(0, .int 6), (1, .int 3)] := hl
  obtain ⟨hx, hb, hr, hml, hB, hown, hlocks, hnm⟩ := id hC
  refine lv_iload_n hx hb dX12_hasOwn_0 rfl (lv_at hl 0 rfl) ?_
  refine lv_tableOut (tgt := 95) hx hb dX12_hasOwn_1 (by decide) (by decide) ?_
  refine lv_iload_n hx hb dX12_hasOwn_95 rfl (lv_at hl 1 rfl) ?_
  refine lv_iconst (v := 3) hx hb dX12_hasOwn_96 (by decide) ?_
  refine lv_icmp_ne (tgt := 104) hx hb dX12_hasOwn_97 (by decide) (fun c9 => absurd (by decide) c9) (fun _ => ?_)
  refine lv_iconst (v := 1) hx hb dX12_hasOwn_100 (by decide) ?_
  refine lv_goto (tgt := 105) hx hb dX12_hasOwn_101 (by decide) ?_
  exact RP (v := 1) hC (rfl) (by decide +kernel) dX12_hasOwn_105
set_option maxHeartbeats 4000000 in
set_option maxRecDepth 100000 in
theorem m_kindOnX (l : Launch) (G : GG) (kq : Nat) (k8 : Nat) (k9 : Nat) (h0 : Nat) (jt : Nat) (nw : Nat) (nk : Nat) (mhasKept : Int32) (nt : Nat) (mtaped : Int32) (nr : Nat) (mrowMany : Int32) (mroundOf : Int32) (mroundFrom : Int32) (mouts : Int32) (nm : Nat) (mfromHour : Int32) (mtoHour : Int32) (ns : Nat) (mfrom : Int32) (mto : Int32) (msort : Int32) (misFault : Int32) (mdeep : Int32) (mcoded : Int32) (mlines : Int32) (nl : Nat) (nc : Nat) (nF : Nat) (np : Nat) (ntr : Nat) (nb : Nat) (mbestCost : Int32) (nso : Nat) (nsi : Nat) (nit : Nat) (nsh : Nat) (nsf : Nat) (nss : Nat) (nrc : Nat) (mtraced : Int32) (mdealer : Int32) (mnumber : Int32) (mwhose : Int32) (msize : Int32) (misParted : Int32) (fnw : Nat → Int32) (fnsh : Nat → Int32) (fnsf : Nat → Int32) (hjt : jt < 4) (ekq : fnw 5 = nI kq) (hkq : kq ≤ 12) (ek8 : fnw 8 = nI k8) (hk8 : k8 ≤ 16) (ek9 : fnw 9 = nI k9) (hk9 : k9 ≤ 12) (hN : NI fnw) : MP l G yX12_kindOn cX12_kindOn 4 (some .int) 3 [.ref h0, .int (nI jt)] [(h0, .inr (12, [.ref nw, .ref nk, .int mhasKept, .ref nt, .int mtaped, .ref nr, .int mrowMany, .int mroundOf, .int mroundFrom, .int mouts, .ref nm, .int mfromHour, .int mtoHour, .ref ns, .int mfrom, .int mto, .int msort, .int misFault, .int mdeep, .int mcoded, .int mlines, .ref nl, .ref nc, .ref nF, .ref np, .ref ntr, .ref nb, .int mbestCost, .ref nso, .ref nsi, .ref nit, .ref nsh, .ref nsf, .ref nss, .ref nrc, .int mtraced, .int mdealer, .int mnumber, .int mwhose, .int msize, .int misParted])), (nw, .inl (G.2.1, 1662, .inl fnw)), (nsh, .inl (G.2.1, 4, .inl fnsh)), (nsf, .inl (G.2.1, 4, .inl fnsf))] (fun r : Int32 => (r = (-1) ∧ KOM (fnsh jt) (fnsf jt) kq k8 k9 (shf fnw 32) (shf fnw 1424) = (-1)) ∨ (r = 1 ∧ KOM (fnsh jt) (fnsf jt) kq k8 k9 (shf fnw 32) (shf fnw 1424) = 1) ∨ (r = 2 ∧ KOM (fnsh jt) (fnsf jt) kq k8 k9 (shf fnw 32) (shf fnw 1424) = 2) ∨ (r = 3 ∧ KOM (fnsh jt) (fnsf jt) kq k8 k9 (shf fnw 32) (shf fnw 1424) = 3) ∨ (r = 4 ∧ KOM (fnsh jt) (fnsf jt) kq k8 k9 (shf fnw 32) (shf fnw 1424) = 4) ∨ (r = 5 ∧ KOM (fnsh jt) (fnsf jt) kq k8 k9 (shf fnw 32) (shf fnw 1424) = 5) ∨ (r = 6 ∧ KOM (fnsh jt) (fnsf jt) kq k8 k9 (shf fnw 32) (shf fnw 1424) = 6)) := by
  refine MP.start (by decide +kernel) (Nat.le_of_ble_eq_true rfl) ?_
  intro p e s m below meth c ls hC hK hP hD hl
  have hl : lv_has ls 4 [(0, .ref h0), (1, .int (nI jt))] := hl
  obtain ⟨hx, hb, hr, hml, hB, hown, hlocks, hnm⟩ := id hC
  refine lv_aload_n hx hb dX12_kindOn_0 rfl (lv_at hl 0 rfl) ?_
  refine gf_X12_75 hC rfl hK hP 0 rfl rfl dX12_kindOn_1 ?_
  refine lv_iload_n hx hb dX12_kindOn_4 rfl (lv_at hl 1 rfl) ?_
  refine ald hC hK hP 3 rfl (vp_in_nI (by omega) (by omega)) (k := jt) (nI_clamp (by omega)) (v := fnsf jt) rfl dX12_kindOn_5 ?_
  refine lv_istore_n (lv' := [(2, .int (fnsf jt)), (0, .ref h0), (1, .int (nI jt))]) hx hb dX12_kindOn_6 rfl hl (by decide) rfl (fun ls hl => ?_)
  refine lv_aload_n hx hb dX12_kindOn_7 rfl (lv_at hl 1 rfl) ?_
  refine gf_X12_72 hC rfl hK hP 0 rfl rfl dX12_kindOn_8 ?_
  refine lv_iload_n hx hb dX12_kindOn_11 rfl (lv_at hl 2 rfl) ?_
  refine ald hC hK hP 2 rfl (vp_in_nI (by omega) (by omega)) (k := jt) (nI_clamp (by omega)) (v := fnsh jt) rfl dX12_kindOn_12 ?_
  by_cases c_13_5895 : fnsh jt = 1
  · refine lv_tableIn (tgt := 40) hx hb dX12_kindOn_13 (by rw [c_13_5895]; decide) (by rw [c_13_5895]; decide) (by rw [c_13_5895]; rfl) (by decide) ?_
    refine lv_aload_n hx hb dX12_kindOn_40 rfl (lv_at hl 1 rfl) ?_
    refine lv_iload_n hx hb dX12_kindOn_41 rfl (lv_at hl 0 rfl) ?_
    refine lv_iconst (v := 5) hx hb dX12_kindOn_42 (by decide) ?_
    refine pV hC hK hl hP hD (m_is l G kq h0 (fnsf jt) 5 nw nk mhasKept nt mtaped nr mrowMany mroundOf mroundFrom mouts nm mfromHour mtoHour ns mfrom mto msort misFault mdeep mcoded mlines nl nc nF np ntr nb mbestCost nso nsi nit nsh nsf nss nrc mtraced mdealer mnumber mwhose msize misParted fnw (by omega) (ekq) (by omega)) si_X12_120 [0, 1] rfl rfl (by decide) rfl rfl rfl rfl rfl (Nat.le_of_ble_eq_true rfl) ⟨Nat.le_of_ble_eq_true rfl, Nat.le_of_ble_eq_true rfl⟩ ⟨by first | exact Nat.le_of_ble_eq_true rfl | exact Nat.zero_le _, by first | exact Nat.le_of_ble_eq_true rfl | exact Nat.zero_le _⟩ dX12_kindOn_43 (fun r5896 hr5896 => ?_)
    rcases hr5896 with ⟨rfl, a5897⟩ | ⟨rfl, a5897⟩
    · refine lv_if_eq (tgt := 73) hx hb dX12_kindOn_46 (by decide) (fun c9 => absurd c9 (by decide)) (fun _ => ?_)
      refine lv_aload_n hx hb dX12_kindOn_49 rfl (lv_at hl 1 rfl) ?_
      refine lv_iload_n hx hb dX12_kindOn_50 rfl (lv_at hl 0 rfl) ?_
      obtain ⟨jn5898, hjn5898, ekjn5898⟩ := Hs_nat (by omega) a5897
      refine eqi (x1 := nI jn5898) ekjn5898 ?_
      refine lv_iconst (v := 1) hx hb dX12_kindOn_51 (by decide) ?_
      refine pV hC hK hl hP hD (m_paper l G h0 jn5898 1 nw nk mhasKept nt mtaped nr mrowMany mroundOf mroundFrom mouts nm mfromHour mtoHour ns mfrom mto msort misFault mdeep mcoded mlines nl nc nF np ntr nb mbestCost nso nsi nit nsh nsf nss nrc mtraced mdealer mnumber mwhose msize misParted fnw (by omega) (by omega)) si_X12_88 [0, 1] rfl rfl (by decide) rfl rfl rfl rfl rfl (Nat.le_of_ble_eq_true rfl) ⟨Nat.le_of_ble_eq_true rfl, Nat.le_of_ble_eq_true rfl⟩ ⟨by first | exact Nat.le_of_ble_eq_true rfl | exact Nat.zero_le _, by first | exact Nat.le_of_ble_eq_true rfl | exact Nat.zero_le _⟩ dX12_kindOn_52 (fun r5899 hr5899 => ?_)
      obtain rfl := hr5899
      refine lv_iconst (v := 1) hx hb dX12_kindOn_55 (by decide) ?_
      refine lv_aload_n hx hb dX12_kindOn_56 rfl (lv_at hl 1 rfl) ?_
      refine lv_iload_n hx hb dX12_kindOn_57 rfl (lv_at hl 0 rfl) ?_
      obtain ⟨jn5901, hjn5901, ekjn5901⟩ := Hs_nat (by omega) a5897
      refine eqi (x1 := nI jn5901) ekjn5901 ?_
      refine lv_iconst (v := 0) hx hb dX12_kindOn_58 (by decide) ?_
      refine pV hC hK hl hP hD (m_paper l G h0 jn5901 0 nw nk mhasKept nt mtaped nr mrowMany mroundOf mroundFrom mouts nm mfromHour mtoHour ns mfrom mto msort misFault mdeep mcoded mlines nl nc nF np ntr nb mbestCost nso nsi nit nsh nsf nss nrc mtraced mdealer mnumber mwhose msize misParted fnw (by omega) (by omega)) si_X12_88 [0, 1] rfl rfl (by decide) rfl rfl rfl rfl rfl (Nat.le_of_ble_eq_true rfl) ⟨Nat.le_of_ble_eq_true rfl, Nat.le_of_ble_eq_true rfl⟩ ⟨by first | exact Nat.le_of_ble_eq_true rfl | exact Nat.zero_le _, by first | exact Nat.le_of_ble_eq_true rfl | exact Nat.zero_le _⟩ dX12_kindOn_59 (fun r5902 hr5902 => ?_)
      obtain rfl := hr5902
      refine lv_ishl hx hb dX12_kindOn_62 ?_
      refine lv_iconst (v := (-1)) hx hb dX12_kindOn_63 (by decide) ?_
      refine lv_ixor hx hb dX12_kindOn_64 ?_
      refine lv_iand hx hb dX12_kindOn_65 ?_
      refine lv_if_eq (tgt := 73) hx hb dX12_kindOn_66 (by decide) (fun c_66_5904 => ?_) (fun c_66_5904 => ?_)
      · refine lv_iconst (v := 0) hx hb dX12_kindOn_73 (by decide) ?_
        refine lv_istore_n (lv' := [(3, .int 0), (2, .int (fnsf jt)), (0, .ref h0), (1, .int (nI jt))]) hx hb dX12_kindOn_74 rfl hl (by decide) rfl (fun ls hl => ?_)
        refine lv_aload_n hx hb dX12_kindOn_75 rfl (lv_at hl 2 rfl) ?_
        refine lv_iload_n hx hb dX12_kindOn_76 rfl (lv_at hl 1 rfl) ?_
        refine lv_iconst (v := 5) hx hb dX12_kindOn_77 (by decide) ?_
        refine pV hC hK hl hP hD (m_is l G kq h0 (fnsf jt) 5 nw nk mhasKept nt mtaped nr mrowMany mroundOf mroundFrom mouts nm mfromHour mtoHour ns mfrom mto msort misFault mdeep mcoded mlines nl nc nF np ntr nb mbestCost nso nsi nit nsh nsf nss nrc mtraced mdealer mnumber mwhose msize misParted fnw (by omega) (ekq) (by omega)) si_X12_120 [0, 1] rfl rfl (by decide) rfl rfl rfl rfl rfl (Nat.le_of_ble_eq_true rfl) ⟨Nat.le_of_ble_eq_true rfl, Nat.le_of_ble_eq_true rfl⟩ ⟨by first | exact Nat.le_of_ble_eq_true rfl | exact Nat.zero_le _, by first | exact Nat.le_of_ble_eq_true rfl | exact Nat.zero_le _⟩ dX12_kindOn_78 (fun r5905 hr5905 => ?_)
        rcases hr5905 with ⟨rfl, a5906⟩ | ⟨rfl, a5906⟩
        · refine lv_if_ne (tgt := 88) hx hb dX12_kindOn_81 (by decide) (fun _ => ?_) (fun c9 => absurd c9 (by decide))
          refine lv_iload_n hx hb dX12_kindOn_88 rfl (lv_at hl 0 rfl) ?_
          refine lv_if_ne (tgt := 96) hx hb dX12_kindOn_89 (by decide) (fun c9 => absurd (by decide) c9) (fun _ => ?_)
          refine lv_iconst (v := 2) hx hb dX12_kindOn_92 (by decide) ?_
          refine lv_goto (tgt := 110) hx hb dX12_kindOn_93 (by decide) ?_
          exact RP (v := 2) hC (Or.inr (Or.inr (Or.inl (⟨rfl, (by unfold KOM; simp only [ifc_t hjt, ifc_t ekq, ifc_t hkq, ifc_t ek8, ifc_t hk8, ifc_t ek9, ifc_t hk9, ifc_t hN, ifc_t c_13_5895, ifc_t a5906, ifc_t c_66_5904, ifc_f (q := fnsh jt = 2) (by rw [c_13_5895]; decide), ifc_f (q := fnsh jt = 3) (by rw [c_13_5895]; decide)]; unfold PKn; rw [show shf fnw 32 ((fnsf jt).toNatClampNeg * 6 + 1) = fnw (32 + 6 * jn5901 + 1) from congrArg fnw (by rw [ekjn5901, nI_clamp (n := jn5901) (by omega)]; omega), show shf fnw 32 ((fnsf jt).toNatClampNeg * 6 + 0) = fnw (32 + 6 * jn5901 + 0) from congrArg fnw (by rw [ekjn5901, nI_clamp (n := jn5901) (by omega)]; omega), ifn_t c_66_5904]; first | done | rfl)⟩)))) rfl dX12_kindOn_110
        · exact absurd a5897 a5906
      · refine lv_iconst (v := 1) hx hb dX12_kindOn_69 (by decide) ?_
        refine lv_goto (tgt := 74) hx hb dX12_kindOn_70 (by decide) ?_
        refine lv_istore_n (lv' := [(3, .int 1), (2, .int (fnsf jt)), (0, .ref h0), (1, .int (nI jt))]) hx hb dX12_kindOn_74 rfl hl (by decide) rfl (fun ls hl => ?_)
        refine lv_aload_n hx hb dX12_kindOn_75 rfl (lv_at hl 2 rfl) ?_
        refine lv_iload_n hx hb dX12_kindOn_76 rfl (lv_at hl 1 rfl) ?_
        refine lv_iconst (v := 5) hx hb dX12_kindOn_77 (by decide) ?_
        refine pV hC hK hl hP hD (m_is l G kq h0 (fnsf jt) 5 nw nk mhasKept nt mtaped nr mrowMany mroundOf mroundFrom mouts nm mfromHour mtoHour ns mfrom mto msort misFault mdeep mcoded mlines nl nc nF np ntr nb mbestCost nso nsi nit nsh nsf nss nrc mtraced mdealer mnumber mwhose msize misParted fnw (by omega) (ekq) (by omega)) si_X12_120 [0, 1] rfl rfl (by decide) rfl rfl rfl rfl rfl (Nat.le_of_ble_eq_true rfl) ⟨Nat.le_of_ble_eq_true rfl, Nat.le_of_ble_eq_true rfl⟩ ⟨by first | exact Nat.le_of_ble_eq_true rfl | exact Nat.zero_le _, by first | exact Nat.le_of_ble_eq_true rfl | exact Nat.zero_le _⟩ dX12_kindOn_78 (fun r5907 hr5907 => ?_)
        rcases hr5907 with ⟨rfl, a5908⟩ | ⟨rfl, a5908⟩
        · refine lv_if_ne (tgt := 88) hx hb dX12_kindOn_81 (by decide) (fun _ => ?_) (fun c9 => absurd c9 (by decide))
          refine lv_iload_n hx hb dX12_kindOn_88 rfl (lv_at hl 0 rfl) ?_
          refine lv_if_ne (tgt := 96) hx hb dX12_kindOn_89 (by decide) (fun _ => ?_) (fun c9 => absurd c9 (by decide))
          refine lv_aload_n hx hb dX12_kindOn_96 rfl (lv_at hl 2 rfl) ?_
          refine lv_iload_n hx hb dX12_kindOn_97 rfl (lv_at hl 1 rfl) ?_
          obtain ⟨jn5909, hjn5909, ekjn5909⟩ := Hs_nat (by omega) a5908
          refine eqi (x1 := nI jn5909) ekjn5909 ?_
          refine lv_iconst (v := 3) hx hb dX12_kindOn_98 (by decide) ?_
          refine pV hC hK hl hP hD (m_paper l G h0 jn5909 3 nw nk mhasKept nt mtaped nr mrowMany mroundOf mroundFrom mouts nm mfromHour mtoHour ns mfrom mto msort misFault mdeep mcoded mlines nl nc nF np ntr nb mbestCost nso nsi nit nsh nsf nss nrc mtraced mdealer mnumber mwhose msize misParted fnw (by omega) (by omega)) si_X12_88 [0, 1] rfl rfl (by decide) rfl rfl rfl rfl rfl (Nat.le_of_ble_eq_true rfl) ⟨Nat.le_of_ble_eq_true rfl, Nat.le_of_ble_eq_true rfl⟩ ⟨by first | exact Nat.le_of_ble_eq_true rfl | exact Nat.zero_le _, by first | exact Nat.le_of_ble_eq_true rfl | exact Nat.zero_le _⟩ dX12_kindOn_99 (fun r5910 hr5910 => ?_)
          obtain rfl := hr5910
          refine lv_if_le (tgt := 109) hx hb dX12_kindOn_102 (by decide) (fun c_102_5912 => ?_) (fun c_102_5912 => ?_)
          · refine lv_iconst (v := 1) hx hb dX12_kindOn_109 (by decide) ?_
            exact RP (v := 1) hC (Or.inr (Or.inl (⟨rfl, (by unfold KOM; simp only [ifc_t hjt, ifc_t ekq, ifc_t hkq, ifc_t ek8, ifc_t hk8, ifc_t ek9, ifc_t hk9, ifc_t hN, ifc_t c_13_5895, ifc_t a5908, ifc_f c_66_5904, ifc_t c_102_5912, ifc_f (q := fnsh jt = 2) (by rw [c_13_5895]; decide), ifc_f (q := fnsh jt = 3) (by rw [c_13_5895]; decide)]; unfold PKn; rw [show shf fnw 32 ((fnsf jt).toNatClampNeg * 6 + 1) = fnw (32 + 6 * jn5909 + 1) from congrArg fnw (by rw [ekjn5909, nI_clamp (n := jn5909) (by omega)]; omega), show shf fnw 32 ((fnsf jt).toNatClampNeg * 6 + 0) = fnw (32 + 6 * jn5909 + 0) from congrArg fnw (by rw [ekjn5909, nI_clamp (n := jn5909) (by omega)]; omega), show shf fnw 32 ((fnsf jt).toNatClampNeg * 6 + 3) = fnw (32 + 6 * jn5909 + 3) from congrArg fnw (by rw [ekjn5909, nI_clamp (n := jn5909) (by omega)]; omega), ifn_f c_66_5904, ifn_f (Int32.not_lt.mpr c_102_5912)]; first | done | rfl)⟩))) rfl dX12_kindOn_110
          · refine lv_iconst (v := 3) hx hb dX12_kindOn_105 (by decide) ?_
            refine lv_goto (tgt := 110) hx hb dX12_kindOn_106 (by decide) ?_
            exact RP (v := 3) hC (Or.inr (Or.inr (Or.inr (Or.inl (⟨rfl, (by unfold KOM; simp only [ifc_t hjt, ifc_t ekq, ifc_t hkq, ifc_t ek8, ifc_t hk8, ifc_t ek9, ifc_t hk9, ifc_t hN, ifc_t c_13_5895, ifc_t a5908, ifc_f c_66_5904, ifc_f c_102_5912, ifc_f (q := fnsh jt = 2) (by rw [c_13_5895]; decide), ifc_f (q := fnsh jt = 3) (by rw [c_13_5895]; decide)]; unfold PKn; rw [show shf fnw 32 ((fnsf jt).toNatClampNeg * 6 + 1) = fnw (32 + 6 * jn5909 + 1) from congrArg fnw (by rw [ekjn5909, nI_clamp (n := jn5909) (by omega)]; omega), show shf fnw 32 ((fnsf jt).toNatClampNeg * 6 + 0) = fnw (32 + 6 * jn5909 + 0) from congrArg fnw (by rw [ekjn5909, nI_clamp (n := jn5909) (by omega)]; omega), show shf fnw 32 ((fnsf jt).toNatClampNeg * 6 + 3) = fnw (32 + 6 * jn5909 + 3) from congrArg fnw (by rw [ekjn5909, nI_clamp (n := jn5909) (by omega)]; omega), ifn_f c_66_5904, ifn_t (Int32.not_le.mp c_102_5912)]; first | done | rfl)⟩))))) rfl dX12_kindOn_110
        · exact absurd a5897 a5908
    · refine lv_if_eq (tgt := 73) hx hb dX12_kindOn_46 (by decide) (fun _ => ?_) (fun c9 => absurd (by decide) c9)
      refine lv_iconst (v := 0) hx hb dX12_kindOn_73 (by decide) ?_
      refine lv_istore_n (lv' := [(3, .int 0), (2, .int (fnsf jt)), (0, .ref h0), (1, .int (nI jt))]) hx hb dX12_kindOn_74 rfl hl (by decide) rfl (fun ls hl => ?_)
      refine lv_aload_n hx hb dX12_kindOn_75 rfl (lv_at hl 2 rfl) ?_
      refine lv_iload_n hx hb dX12_kindOn_76 rfl (lv_at hl 1 rfl) ?_
      refine lv_iconst (v := 5) hx hb dX12_kindOn_77 (by decide) ?_
      refine pV hC hK hl hP hD (m_is l G kq h0 (fnsf jt) 5 nw nk mhasKept nt mtaped nr mrowMany mroundOf mroundFrom mouts nm mfromHour mtoHour ns mfrom mto msort misFault mdeep mcoded mlines nl nc nF np ntr nb mbestCost nso nsi nit nsh nsf nss nrc mtraced mdealer mnumber mwhose msize misParted fnw (by omega) (ekq) (by omega)) si_X12_120 [0, 1] rfl rfl (by decide) rfl rfl rfl rfl rfl (Nat.le_of_ble_eq_true rfl) ⟨Nat.le_of_ble_eq_true rfl, Nat.le_of_ble_eq_true rfl⟩ ⟨by first | exact Nat.le_of_ble_eq_true rfl | exact Nat.zero_le _, by first | exact Nat.le_of_ble_eq_true rfl | exact Nat.zero_le _⟩ dX12_kindOn_78 (fun r5913 hr5913 => ?_)
      rcases hr5913 with ⟨rfl, a5914⟩ | ⟨rfl, a5914⟩
      · exact absurd a5914 a5897
      · refine lv_if_ne (tgt := 88) hx hb dX12_kindOn_81 (by decide) (fun c9 => absurd (by decide) c9) (fun _ => ?_)
        refine lv_iconst (v := (-1)) hx hb dX12_kindOn_84 (by decide) ?_
        refine lv_goto (tgt := 110) hx hb dX12_kindOn_85 (by decide) ?_
        exact RP (v := (-1)) hC (Or.inl (⟨rfl, (by unfold KOM; first | (simp only [ifc_t hjt, ifc_t ekq, ifc_t hkq, ifc_t ek8, ifc_t hk8, ifc_t ek9, ifc_t hk9, ifc_t hN, ifc_t c_13_5895, ifc_f a5914, ifc_f (q := fnsh jt = 2) (by rw [c_13_5895]; decide), ifc_f (q := fnsh jt = 3) (by rw [c_13_5895]; decide)]; done) | (simp only [ifc_t hjt, ifc_t ekq, ifc_t hkq, ifc_t ek8, ifc_t hk8, ifc_t ek9, ifc_t hk9, ifc_t hN, ifc_t c_13_5895, ifc_f a5914, ifc_f (q := fnsh jt = 2) (by rw [c_13_5895]; decide), ifc_f (q := fnsh jt = 3) (by rw [c_13_5895]; decide)]; rfl))⟩)) rfl dX12_kindOn_110
  by_cases c_13_5915 : fnsh jt = 2
  · refine lv_tableIn (tgt := 111) hx hb dX12_kindOn_13 (by rw [c_13_5915]; decide) (by rw [c_13_5915]; decide) (by rw [c_13_5915]; rfl) (by decide) ?_
    refine lv_aload_n hx hb dX12_kindOn_111 rfl (lv_at hl 1 rfl) ?_
    refine lv_iload_n hx hb dX12_kindOn_112 rfl (lv_at hl 0 rfl) ?_
    refine lv_bipush (v := 8) hx hb dX12_kindOn_113 (by decide) ?_
    refine pV hC hK hl hP hD (m_is l G k8 h0 (fnsf jt) 8 nw nk mhasKept nt mtaped nr mrowMany mroundOf mroundFrom mouts nm mfromHour mtoHour ns mfrom mto msort misFault mdeep mcoded mlines nl nc nF np ntr nb mbestCost nso nsi nit nsh nsf nss nrc mtraced mdealer mnumber mwhose msize misParted fnw (by omega) (ek8) (by omega)) si_X12_120 [0, 1] rfl rfl (by decide) rfl rfl rfl rfl rfl (Nat.le_of_ble_eq_true rfl) ⟨Nat.le_of_ble_eq_true rfl, Nat.le_of_ble_eq_true rfl⟩ ⟨by first | exact Nat.le_of_ble_eq_true rfl | exact Nat.zero_le _, by first | exact Nat.le_of_ble_eq_true rfl | exact Nat.zero_le _⟩ dX12_kindOn_115 (fun r5916 hr5916 => ?_)
    rcases hr5916 with ⟨rfl, a5917⟩ | ⟨rfl, a5917⟩
    · refine lv_if_ne (tgt := 125) hx hb dX12_kindOn_118 (by decide) (fun _ => ?_) (fun c9 => absurd c9 (by decide))
      refine lv_aload_n hx hb dX12_kindOn_125 rfl (lv_at hl 1 rfl) ?_
      refine lv_iload_n hx hb dX12_kindOn_126 rfl (lv_at hl 0 rfl) ?_
      obtain ⟨jn5918, hjn5918, ekjn5918⟩ := Hs_nat (by omega) a5917
      refine eqi (x1 := nI jn5918) ekjn5918 ?_
      refine lv_bipush (v := 6) hx hb dX12_kindOn_127 (by decide) ?_
      refine pV hC hK hl hP hD (m_saying l G h0 jn5918 6 nw nk mhasKept nt mtaped nr mrowMany mroundOf mroundFrom mouts nm mfromHour mtoHour ns mfrom mto msort misFault mdeep mcoded mlines nl nc nF np ntr nb mbestCost nso nsi nit nsh nsf nss nrc mtraced mdealer mnumber mwhose msize misParted fnw (by omega) (by omega)) si_X12_114 [0, 1] rfl rfl (by decide) rfl rfl rfl rfl rfl (Nat.le_of_ble_eq_true rfl) ⟨Nat.le_of_ble_eq_true rfl, Nat.le_of_ble_eq_true rfl⟩ ⟨by first | exact Nat.le_of_ble_eq_true rfl | exact Nat.zero_le _, by first | exact Nat.le_of_ble_eq_true rfl | exact Nat.zero_le _⟩ dX12_kindOn_129 (fun r5919 hr5919 => ?_)
      obtain rfl := hr5919
      refine lv_if_ge (tgt := 139) hx hb dX12_kindOn_132 (by decide) (fun c_132_5921 => ?_) (fun c_132_5921 => ?_)
      · refine lv_iconst (v := 4) hx hb dX12_kindOn_139 (by decide) ?_
        exact RP (v := 4) hC (Or.inr (Or.inr (Or.inr (Or.inr (Or.inl (⟨rfl, (by unfold KOM; simp only [ifc_t hjt, ifc_t ekq, ifc_t hkq, ifc_t ek8, ifc_t hk8, ifc_t ek9, ifc_t hk9, ifc_t hN, ifc_f c_13_5895, ifc_t c_13_5915, ifc_t a5917, ifc_t c_132_5921, ifc_f (q := fnsh jt = 1) (by rw [c_13_5915]; decide), ifc_f (q := fnsh jt = 3) (by rw [c_13_5915]; decide)]; unfold SKn; rw [show shf fnw 1424 ((fnsf jt).toNatClampNeg * 8 + 6) = fnw (1424 + 8 * jn5918 + 6) from congrArg fnw (by rw [ekjn5918, nI_clamp (n := jn5918) (by omega)]; omega), ifn_f (Int32.not_lt.mpr c_132_5921)]; first | done | rfl)⟩)))))) rfl dX12_kindOn_140
      · refine lv_iconst (v := 5) hx hb dX12_kindOn_135 (by decide) ?_
        refine lv_goto (tgt := 140) hx hb dX12_kindOn_136 (by decide) ?_
        exact RP (v := 5) hC (Or.inr (Or.inr (Or.inr (Or.inr (Or.inr (Or.inl (⟨rfl, (by unfold KOM; simp only [ifc_t hjt, ifc_t ekq, ifc_t hkq, ifc_t ek8, ifc_t hk8, ifc_t ek9, ifc_t hk9, ifc_t hN, ifc_f c_13_5895, ifc_t c_13_5915, ifc_t a5917, ifc_f c_132_5921, ifc_f (q := fnsh jt = 1) (by rw [c_13_5915]; decide), ifc_f (q := fnsh jt = 3) (by rw [c_13_5915]; decide)]; unfold SKn; rw [show shf fnw 1424 ((fnsf jt).toNatClampNeg * 8 + 6) = fnw (1424 + 8 * jn5918 + 6) from congrArg fnw (by rw [ekjn5918, nI_clamp (n := jn5918) (by omega)]; omega), ifn_t (Int32.not_le.mp c_132_5921)]; first | done | rfl)⟩))))))) rfl dX12_kindOn_140
    · refine lv_if_ne (tgt := 125) hx hb dX12_kindOn_118 (by decide) (fun c9 => absurd (by decide) c9) (fun _ => ?_)
      refine lv_iconst (v := (-1)) hx hb dX12_kindOn_121 (by decide) ?_
      refine lv_goto (tgt := 140) hx hb dX12_kindOn_122 (by decide) ?_
      exact RP (v := (-1)) hC (Or.inl (⟨rfl, (by unfold KOM; first | (simp only [ifc_t hjt, ifc_t ekq, ifc_t hkq, ifc_t ek8, ifc_t hk8, ifc_t ek9, ifc_t hk9, ifc_t hN, ifc_f c_13_5895, ifc_t c_13_5915, ifc_f a5917, ifc_f (q := fnsh jt = 1) (by rw [c_13_5915]; decide), ifc_f (q := fnsh jt = 3) (by rw [c_13_5915]; decide)]; done) | (simp only [ifc_t hjt, ifc_t ekq, ifc_t hkq, ifc_t ek8, ifc_t hk8, ifc_t ek9, ifc_t hk9, ifc_t hN, ifc_f c_13_5895, ifc_t c_13_5915, ifc_f a5917, ifc_f (q := fnsh jt = 1) (by rw [c_13_5915]; decide), ifc_f (q := fnsh jt = 3) (by rw [c_13_5915]; decide)]; rfl))⟩)) rfl dX12_kindOn_140
  by_cases c_13_5922 : fnsh jt = 3
  · refine lv_tableIn (tgt := 141) hx hb dX12_kindOn_13 (by rw [c_13_5922]; decide) (by rw [c_13_5922]; decide) (by rw [c_13_5922]; rfl) (by decide) ?_
    refine lv_aload_n hx hb dX12_kindOn_141 rfl (lv_at hl 1 rfl) ?_
    refine lv_iload_n hx hb dX12_kindOn_142 rfl (lv_at hl 0 rfl) ?_
    refine lv_bipush (v := 9) hx hb dX12_kindOn_143 (by decide) ?_
    refine pV hC hK hl hP hD (m_is l G k9 h0 (fnsf jt) 9 nw nk mhasKept nt mtaped nr mrowMany mroundOf mroundFrom mouts nm mfromHour mtoHour ns mfrom mto msort misFault mdeep mcoded mlines nl nc nF np ntr nb mbestCost nso nsi nit nsh nsf nss nrc mtraced mdealer mnumber mwhose msize misParted fnw (by omega) (ek9) (by omega)) si_X12_120 [0, 1] rfl rfl (by decide) rfl rfl rfl rfl rfl (Nat.le_of_ble_eq_true rfl) ⟨Nat.le_of_ble_eq_true rfl, Nat.le_of_ble_eq_true rfl⟩ ⟨by first | exact Nat.le_of_ble_eq_true rfl | exact Nat.zero_le _, by first | exact Nat.le_of_ble_eq_true rfl | exact Nat.zero_le _⟩ dX12_kindOn_145 (fun r5923 hr5923 => ?_)
    rcases hr5923 with ⟨rfl, a5924⟩ | ⟨rfl, a5924⟩
    · refine lv_if_eq (tgt := 156) hx hb dX12_kindOn_148 (by decide) (fun c9 => absurd c9 (by decide)) (fun _ => ?_)
      refine lv_bipush (v := 6) hx hb dX12_kindOn_151 (by decide) ?_
      refine lv_goto (tgt := 157) hx hb dX12_kindOn_153 (by decide) ?_
      exact RP (v := 6) hC (Or.inr (Or.inr (Or.inr (Or.inr (Or.inr (Or.inr (⟨rfl, (by unfold KOM; first | (simp only [ifc_t hjt, ifc_t ekq, ifc_t hkq, ifc_t ek8, ifc_t hk8, ifc_t ek9, ifc_t hk9, ifc_t hN, ifc_f c_13_5895, ifc_f c_13_5915, ifc_t c_13_5922, ifc_t a5924, ifc_f (q := fnsh jt = 1) (by rw [c_13_5922]; decide), ifc_f (q := fnsh jt = 2) (by rw [c_13_5922]; decide)]; done) | (simp only [ifc_t hjt, ifc_t ekq, ifc_t hkq, ifc_t ek8, ifc_t hk8, ifc_t ek9, ifc_t hk9, ifc_t hN, ifc_f c_13_5895, ifc_f c_13_5915, ifc_t c_13_5922, ifc_t a5924, ifc_f (q := fnsh jt = 1) (by rw [c_13_5922]; decide), ifc_f (q := fnsh jt = 2) (by rw [c_13_5922]; decide)]; rfl))⟩))))))) rfl dX12_kindOn_157
    · refine lv_if_eq (tgt := 156) hx hb dX12_kindOn_148 (by decide) (fun _ => ?_) (fun c9 => absurd (by decide) c9)
      refine lv_iconst (v := (-1)) hx hb dX12_kindOn_156 (by decide) ?_
      exact RP (v := (-1)) hC (Or.inl (⟨rfl, (by unfold KOM; first | (simp only [ifc_t hjt, ifc_t ekq, ifc_t hkq, ifc_t ek8, ifc_t hk8, ifc_t ek9, ifc_t hk9, ifc_t hN, ifc_f c_13_5895, ifc_f c_13_5915, ifc_t c_13_5922, ifc_f a5924, ifc_f (q := fnsh jt = 1) (by rw [c_13_5922]; decide), ifc_f (q := fnsh jt = 2) (by rw [c_13_5922]; decide)]; done) | (simp only [ifc_t hjt, ifc_t ekq, ifc_t hkq, ifc_t ek8, ifc_t hk8, ifc_t ek9, ifc_t hk9, ifc_t hN, ifc_f c_13_5895, ifc_f c_13_5915, ifc_t c_13_5922, ifc_f a5924, ifc_f (q := fnsh jt = 1) (by rw [c_13_5922]; decide), ifc_f (q := fnsh jt = 2) (by rw [c_13_5922]; decide)]; rfl))⟩)) rfl dX12_kindOn_157
  refine lv_tableOut (tgt := 158) hx hb dX12_kindOn_13 (by have q9 := sw_1_3 (x := fnsh jt); simp only [c_13_5895, c_13_5915, c_13_5922, not_false_eq_true, true_implies] at q9; exact q9) (by decide) ?_
  refine lv_iconst (v := (-1)) hx hb dX12_kindOn_158 (by decide) ?_
  exact RP (v := (-1)) hC (Or.inl (⟨rfl, (by unfold KOM; first | (simp only [ifc_t hjt, ifc_t ekq, ifc_t hkq, ifc_t ek8, ifc_t hk8, ifc_t ek9, ifc_t hk9, ifc_t hN, ifc_f c_13_5895, ifc_f c_13_5915, ifc_f c_13_5922]; done) | (simp only [ifc_t hjt, ifc_t ekq, ifc_t hkq, ifc_t ek8, ifc_t hk8, ifc_t ek9, ifc_t hk9, ifc_t hN, ifc_f c_13_5895, ifc_f c_13_5915, ifc_f c_13_5922]; rfl))⟩)) rfl dX12_kindOn_159
set_option maxHeartbeats 4000000 in
set_option maxRecDepth 100000 in
theorem r_taken (l : Launch) (G : GG) (kq : Nat) (k8 : Nat) (k9 : Nat) (h0 : Nat) (x1 : Int32) (x2 : Int32) (nw : Nat) (nk : Nat) (mhasKept : Int32) (nt : Nat) (mtaped : Int32) (nr : Nat) (mrowMany : Int32) (mroundOf : Int32) (mroundFrom : Int32) (mouts : Int32) (nm : Nat) (mfromHour : Int32) (mtoHour : Int32) (ns : Nat) (mfrom : Int32) (mto : Int32) (msort : Int32) (misFault : Int32) (mdeep : Int32) (mcoded : Int32) (mlines : Int32) (nl : Nat) (nc : Nat) (nF : Nat) (np : Nat) (ntr : Nat) (nb : Nat) (mbestCost : Int32) (nso : Nat) (nsi : Nat) (nit : Nat) (nsh : Nat) (nsf : Nat) (nss : Nat) (nrc : Nat) (mtraced : Int32) (mdealer : Int32) (mnumber : Int32) (mwhose : Int32) (msize : Int32) (misParted : Int32) (fnw : Nat → Int32) (fnsh : Nat → Int32) (fnsf : Nat → Int32) (fnss : Nat → Int32) (ekq : fnw 5 = nI kq) (hkq : kq ≤ 12) (ek8 : fnw 8 = nI k8) (hk8 : k8 ≤ 16) (ek9 : fnw 9 = nI k9) (hk9 : k9 ≤ 12) (hN : NI fnw) : MP l G yX12_taken cX12_taken 4 (some .int) 4 [.ref h0, .int x1, .int x2] [(h0, .inr (12, [.ref nw, .ref nk, .int mhasKept, .ref nt, .int mtaped, .ref nr, .int mrowMany, .int mroundOf, .int mroundFrom, .int mouts, .ref nm, .int mfromHour, .int mtoHour, .ref ns, .int mfrom, .int mto, .int msort, .int misFault, .int mdeep, .int mcoded, .int mlines, .ref nl, .ref nc, .ref nF, .ref np, .ref ntr, .ref nb, .int mbestCost, .ref nso, .ref nsi, .ref nit, .ref nsh, .ref nsf, .ref nss, .ref nrc, .int mtraced, .int mdealer, .int mnumber, .int mwhose, .int msize, .int misParted])), (nw, .inl (G.2.1, 1662, .inl fnw)), (nsh, .inl (G.2.1, 4, .inl fnsh)), (nsf, .inl (G.2.1, 4, .inl fnsf)), (nss, .inl (G.2.1, 4, .inl fnss))] (fun r : Int32 => r = ifc (Wi x1 0 3) (ifc (Wi x2 0 6 ∨ Wi x2 10 14) (ifc (fnsh x1.toNatClampNeg = 4) (ifc (x2 - 10 = fnsf x1.toNatClampNeg) (fnss x1.toNatClampNeg) (-13)) (ifc (KOM (fnsh x1.toNatClampNeg) (fnsf x1.toNatClampNeg) kq k8 k9 (shf fnw 32) (shf fnw 1424) < 0) (-11) (ifc (UNl (KOM (fnsh x1.toNatClampNeg) (fnsf x1.toNatClampNeg) kq k8 k9 (shf fnw 32) (shf fnw 1424)).toNatClampNeg x2) (fnsf x1.toNatClampNeg) (-13)))) (-1)) (-1)) := by
  refine MP.start (by decide +kernel) (Nat.le_of_ble_eq_true rfl) ?_
  intro p e s m below meth c ls hC hK hP hD hl
  have hl : lv_has ls 4 [(0, .ref h0), (1, .int x1), (2, .int x2)] := hl
  obtain ⟨hx, hb, hr, hml, hB, hown, hlocks, hnm⟩ := id hC
  refine lv_iload_n hx hb dX12_taken_0 rfl (lv_at hl 1 rfl) ?_
  refine pS hC hK hl (m_isFour l G x1) si_X12_336 rfl rfl (Nat.le_of_ble_eq_true rfl) ⟨Nat.le_of_ble_eq_true rfl, Nat.le_of_ble_eq_true rfl⟩ ⟨by first | exact Nat.le_of_ble_eq_true rfl | exact Nat.zero_le _, by first | exact Nat.le_of_ble_eq_true rfl | exact Nat.zero_le _⟩ dX12_taken_1 (fun r5925 hr5925 => ?_)
  rcases hr5925 with ⟨rfl, a5926⟩ | ⟨rfl, a5926⟩
  · refine lv_if_eq (tgt := 28) hx hb dX12_taken_4 (by decide) (fun c9 => absurd c9 (by decide)) (fun _ => ?_)
    refine lv_iload_n hx hb dX12_taken_7 rfl (lv_at hl 2 rfl) ?_
    refine lv_iconst (v := 0) hx hb dX12_taken_8 (by decide) ?_
    refine lv_bipush (v := 6) hx hb dX12_taken_9 (by decide) ?_
    refine pS hC hK hl (m_within l G x2 0 6) si_X12_84 rfl rfl (Nat.le_of_ble_eq_true rfl) ⟨Nat.le_of_ble_eq_true rfl, Nat.le_of_ble_eq_true rfl⟩ ⟨by first | exact Nat.le_of_ble_eq_true rfl | exact Nat.zero_le _, by first | exact Nat.le_of_ble_eq_true rfl | exact Nat.zero_le _⟩ dX12_taken_11 (fun r5927 hr5927 => ?_)
    rcases hr5927 with ⟨rfl, a5928⟩ | ⟨rfl, a5928⟩
    · refine lv_if_ne (tgt := 30) hx hb dX12_taken_14 (by decide) (fun _ => ?_) (fun c9 => absurd c9 (by decide))
      obtain ⟨jt, hjt, rfl⟩ := Wi_nat (N := 3) (by decide) a5926
      refine lv_aload_n hx hb dX12_taken_30 rfl (lv_at hl 0 rfl) ?_
      refine gf_X12_72 hC rfl hK hP 0 rfl rfl dX12_taken_31 ?_
      refine lv_iload_n hx hb dX12_taken_34 rfl (lv_at hl 1 rfl) ?_
      refine ald hC hK hP 2 rfl (vp_in_nI (by omega) (by omega)) (k := jt) (nI_clamp (by omega)) (v := fnsh jt) rfl dX12_taken_35 ?_
      refine lv_iconst (v := 4) hx hb dX12_taken_36 (by decide) ?_
      refine lv_icmp_ne (tgt := 65) hx hb dX12_taken_37 (by decide) (fun c_37_5929 => ?_) (fun c_37_5929 => ?_)
      · refine lv_aload_n hx hb dX12_taken_65 rfl (lv_at hl 0 rfl) ?_
        refine lv_iload_n hx hb dX12_taken_66 rfl (lv_at hl 1 rfl) ?_
        refine pV hC hK hl hP hD (m_kindOnX l G kq k8 k9 h0 jt nw nk mhasKept nt mtaped nr mrowMany mroundOf mroundFrom mouts nm mfromHour mtoHour ns mfrom mto msort misFault mdeep mcoded mlines nl nc nF np ntr nb mbestCost nso nsi nit nsh nsf nss nrc mtraced mdealer mnumber mwhose msize misParted fnw fnsh fnsf (by omega) (ekq) (by omega) (ek8) (by omega) (ek9) (by omega) (hN)) si_X12_345 [0, 1, 2, 3] rfl rfl (by decide) rfl rfl rfl rfl rfl (Nat.le_of_ble_eq_true rfl) ⟨Nat.le_of_ble_eq_true rfl, Nat.le_of_ble_eq_true rfl⟩ ⟨by first | exact Nat.le_of_ble_eq_true rfl | exact Nat.zero_le _, by first | exact Nat.le_of_ble_eq_true rfl | exact Nat.zero_le _⟩ dX12_taken_67 (fun r5930 hr5930 => ?_)
        rcases hr5930 with ⟨rfl, a5931⟩ | ⟨rfl, a5931⟩ | ⟨rfl, a5931⟩ | ⟨rfl, a5931⟩ | ⟨rfl, a5931⟩ | ⟨rfl, a5931⟩ | ⟨rfl, a5931⟩
        · refine lv_istore_n (lv' := [(3, .int (-1)), (0, .ref h0), (1, .int (nI jt)), (2, .int x2)]) hx hb dX12_taken_70 rfl hl (by decide) rfl (fun ls hl => ?_)
          refine lv_iload_n hx hb dX12_taken_71 rfl (lv_at hl 0 rfl) ?_
          refine lv_if_ge (tgt := 78) hx hb dX12_taken_72 (by decide) (fun c9 => absurd c9 (by decide)) (fun _ => ?_)
          refine lv_bipush (v := (-11)) hx hb dX12_taken_75 (by decide) ?_
          exact RP (v := (-11)) hC ((by first | rfl | (simp only [nI_clamp (n := jt) (by omega), ifc_t ekq, ifc_t hkq, ifc_t ek8, ifc_t hk8, ifc_t ek9, ifc_t hk9, ifc_t hN, ifc_t a5926, ifc_t a5928, ifc_f c_37_5929, ifc_t (q := Wi x2 0 6 ∨ Wi x2 10 14) (Or.inl a5928), a5931, ifc_t (q := (-1 : Int32) < 0) (by decide)]; done) | (simp only [nI_clamp (n := jt) (by omega), ifc_t ekq, ifc_t hkq, ifc_t ek8, ifc_t hk8, ifc_t ek9, ifc_t hk9, ifc_t hN, ifc_t a5926, ifc_t a5928, ifc_f c_37_5929, ifc_t (q := Wi x2 0 6 ∨ Wi x2 10 14) (Or.inl a5928), a5931, ifc_t (q := (-1 : Int32) < 0) (by decide)]; rfl))) rfl dX12_taken_77
        · refine lv_istore_n (lv' := [(3, .int 1), (0, .ref h0), (1, .int (nI jt)), (2, .int x2)]) hx hb dX12_taken_70 rfl hl (by decide) rfl (fun ls hl => ?_)
          refine lv_iload_n hx hb dX12_taken_71 rfl (lv_at hl 0 rfl) ?_
          refine lv_if_ge (tgt := 78) hx hb dX12_taken_72 (by decide) (fun _ => ?_) (fun c9 => absurd (by decide) c9)
          refine lv_iload_n hx hb dX12_taken_78 rfl (lv_at hl 0 rfl) ?_
          refine lv_if_lt (tgt := 95) hx hb dX12_taken_79 (by decide) (fun c9 => absurd c9 (by decide)) (fun _ => ?_)
          refine lv_iload_n hx hb dX12_taken_82 rfl (lv_at hl 0 rfl) ?_
          refine lv_iload_n hx hb dX12_taken_83 rfl (lv_at hl 3 rfl) ?_
          refine lv_icmp_eq (tgt := 95) hx hb dX12_taken_84 (by decide) (fun c_84_5932 => ?_) (fun c_84_5932 => ?_)
          · refine lv_iload_n hx hb dX12_taken_95 rfl (lv_at hl 0 rfl) ?_
            refine lv_iload_n hx hb dX12_taken_96 rfl (lv_at hl 3 rfl) ?_
            refine lv_icmp_ne (tgt := 109) hx hb dX12_taken_97 (by decide) (fun c9 => absurd (c_84_5932) c9) (fun _ => ?_)
            refine lv_aload_n hx hb dX12_taken_100 rfl (lv_at hl 1 rfl) ?_
            refine gf_X12_75 hC rfl hK hP 0 rfl rfl dX12_taken_101 ?_
            refine lv_iload_n hx hb dX12_taken_104 rfl (lv_at hl 2 rfl) ?_
            refine ald hC hK hP 3 rfl (vp_in_nI (by omega) (by omega)) (k := jt) (nI_clamp (by omega)) (v := fnsf jt) rfl dX12_taken_105 ?_
            refine lv_goto (tgt := 111) hx hb dX12_taken_106 (by decide) ?_
            exact RP (v := fnsf jt) hC ((by first | rfl | (simp only [nI_clamp (n := jt) (by omega), ifc_t ekq, ifc_t hkq, ifc_t ek8, ifc_t hk8, ifc_t ek9, ifc_t hk9, ifc_t hN, ifc_t a5926, ifc_t a5928, ifc_f c_37_5929, ifc_t c_84_5932, ifc_t (q := Wi x2 0 6 ∨ Wi x2 10 14) (Or.inl a5928), a5931, ifc_f (q := (1 : Int32) < 0) (by decide), ifc_t (q := UNl (1 : Int32).toNatClampNeg x2) (show UNl 1 x2 from Or.inl (c_84_5932.symm))]; done) | (simp only [nI_clamp (n := jt) (by omega), ifc_t ekq, ifc_t hkq, ifc_t ek8, ifc_t hk8, ifc_t ek9, ifc_t hk9, ifc_t hN, ifc_t a5926, ifc_t a5928, ifc_f c_37_5929, ifc_t c_84_5932, ifc_t (q := Wi x2 0 6 ∨ Wi x2 10 14) (Or.inl a5928), a5931, ifc_f (q := (1 : Int32) < 0) (by decide), ifc_t (q := UNl (1 : Int32).toNatClampNeg x2) (show UNl 1 x2 from Or.inl (c_84_5932.symm))]; rfl))) rfl dX12_taken_111
          · refine lv_iload_n hx hb dX12_taken_87 rfl (lv_at hl 0 rfl) ?_
            refine pS hC hK hl (m_above1 l G) si_X12_348 rfl rfl (Nat.le_of_ble_eq_true rfl) ⟨Nat.le_of_ble_eq_true rfl, Nat.le_of_ble_eq_true rfl⟩ ⟨by first | exact Nat.le_of_ble_eq_true rfl | exact Nat.zero_le _, by first | exact Nat.le_of_ble_eq_true rfl | exact Nat.zero_le _⟩ dX12_taken_88 (fun r5933 hr5933 => ?_)
            obtain rfl := hr5933
            refine lv_istore_n (lv' := [(3, .int 0), (0, .ref h0), (1, .int (nI jt)), (2, .int x2)]) hx hb dX12_taken_91 rfl hl (by decide) rfl (fun ls hl => ?_)
            refine lv_goto (tgt := 78) hx hb dX12_taken_92 (by decide) ?_
            refine lv_iload_n hx hb dX12_taken_78 rfl (lv_at hl 0 rfl) ?_
            refine lv_if_lt (tgt := 95) hx hb dX12_taken_79 (by decide) (fun c9 => absurd c9 (by decide)) (fun _ => ?_)
            refine lv_iload_n hx hb dX12_taken_82 rfl (lv_at hl 0 rfl) ?_
            refine lv_iload_n hx hb dX12_taken_83 rfl (lv_at hl 3 rfl) ?_
            refine lv_icmp_eq (tgt := 95) hx hb dX12_taken_84 (by decide) (fun c_84_5935 => ?_) (fun c_84_5935 => ?_)
            · refine lv_iload_n hx hb dX12_taken_95 rfl (lv_at hl 0 rfl) ?_
              refine lv_iload_n hx hb dX12_taken_96 rfl (lv_at hl 3 rfl) ?_
              refine lv_icmp_ne (tgt := 109) hx hb dX12_taken_97 (by decide) (fun c9 => absurd (c_84_5935) c9) (fun _ => ?_)
              refine lv_aload_n hx hb dX12_taken_100 rfl (lv_at hl 1 rfl) ?_
              refine gf_X12_75 hC rfl hK hP 0 rfl rfl dX12_taken_101 ?_
              refine lv_iload_n hx hb dX12_taken_104 rfl (lv_at hl 2 rfl) ?_
              refine ald hC hK hP 3 rfl (vp_in_nI (by omega) (by omega)) (k := jt) (nI_clamp (by omega)) (v := fnsf jt) rfl dX12_taken_105 ?_
              refine lv_goto (tgt := 111) hx hb dX12_taken_106 (by decide) ?_
              exact RP (v := fnsf jt) hC ((by first | rfl | (simp only [nI_clamp (n := jt) (by omega), ifc_t ekq, ifc_t hkq, ifc_t ek8, ifc_t hk8, ifc_t ek9, ifc_t hk9, ifc_t hN, ifc_t a5926, ifc_t a5928, ifc_f c_37_5929, ifc_f c_84_5932, ifc_t c_84_5935, ifc_t (q := Wi x2 0 6 ∨ Wi x2 10 14) (Or.inl a5928), a5931, ifc_f (q := (1 : Int32) < 0) (by decide), ifc_t (q := UNl (1 : Int32).toNatClampNeg x2) (show UNl 1 x2 from Or.inr (c_84_5935.symm))]; done) | (simp only [nI_clamp (n := jt) (by omega), ifc_t ekq, ifc_t hkq, ifc_t ek8, ifc_t hk8, ifc_t ek9, ifc_t hk9, ifc_t hN, ifc_t a5926, ifc_t a5928, ifc_f c_37_5929, ifc_f c_84_5932, ifc_t c_84_5935, ifc_t (q := Wi x2 0 6 ∨ Wi x2 10 14) (Or.inl a5928), a5931, ifc_f (q := (1 : Int32) < 0) (by decide), ifc_t (q := UNl (1 : Int32).toNatClampNeg x2) (show UNl 1 x2 from Or.inr (c_84_5935.symm))]; rfl))) rfl dX12_taken_111
            · refine lv_iload_n hx hb dX12_taken_87 rfl (lv_at hl 0 rfl) ?_
              refine pS hC hK hl (m_above0 l G) si_X12_348 rfl rfl (Nat.le_of_ble_eq_true rfl) ⟨Nat.le_of_ble_eq_true rfl, Nat.le_of_ble_eq_true rfl⟩ ⟨by first | exact Nat.le_of_ble_eq_true rfl | exact Nat.zero_le _, by first | exact Nat.le_of_ble_eq_true rfl | exact Nat.zero_le _⟩ dX12_taken_88 (fun r5936 hr5936 => ?_)
              obtain rfl := hr5936
              refine lv_istore_n (lv' := [(3, .int (-1)), (0, .ref h0), (1, .int (nI jt)), (2, .int x2)]) hx hb dX12_taken_91 rfl hl (by decide) rfl (fun ls hl => ?_)
              refine lv_goto (tgt := 78) hx hb dX12_taken_92 (by decide) ?_
              refine lv_iload_n hx hb dX12_taken_78 rfl (lv_at hl 0 rfl) ?_
              refine lv_if_lt (tgt := 95) hx hb dX12_taken_79 (by decide) (fun _ => ?_) (fun c9 => absurd (by decide) c9)
              refine lv_iload_n hx hb dX12_taken_95 rfl (lv_at hl 0 rfl) ?_
              refine lv_iload_n hx hb dX12_taken_96 rfl (lv_at hl 3 rfl) ?_
              refine lv_icmp_ne (tgt := 109) hx hb dX12_taken_97 (by decide) (fun c_97_5938 => ?_) (fun c_97_5938 => ?_)
              · refine lv_bipush (v := (-13)) hx hb dX12_taken_109 (by decide) ?_
                exact RP (v := (-13)) hC ((by first | rfl | (simp only [nI_clamp (n := jt) (by omega), ifc_t ekq, ifc_t hkq, ifc_t ek8, ifc_t hk8, ifc_t ek9, ifc_t hk9, ifc_t hN, ifc_t a5926, ifc_t a5928, ifc_f c_37_5929, ifc_f c_84_5932, ifc_f c_84_5935, ifc_f c_97_5938, ifc_t (q := Wi x2 0 6 ∨ Wi x2 10 14) (Or.inl a5928), a5931, ifc_f (q := (1 : Int32) < 0) (by decide), ifc_f (q := UNl (1 : Int32).toNatClampNeg x2) (fun h9 => (show False from by have h7 : x2 = 1 ∨ x2 = 0 := h9; rcases h7 with h8 | h8 <;> (first | exact c_84_5932 h8.symm | exact c_84_5935 h8.symm)))]; done) | (simp only [nI_clamp (n := jt) (by omega), ifc_t ekq, ifc_t hkq, ifc_t ek8, ifc_t hk8, ifc_t ek9, ifc_t hk9, ifc_t hN, ifc_t a5926, ifc_t a5928, ifc_f c_37_5929, ifc_f c_84_5932, ifc_f c_84_5935, ifc_f c_97_5938, ifc_t (q := Wi x2 0 6 ∨ Wi x2 10 14) (Or.inl a5928), a5931, ifc_f (q := (1 : Int32) < 0) (by decide), ifc_f (q := UNl (1 : Int32).toNatClampNeg x2) (fun h9 => (show False from by have h7 : x2 = 1 ∨ x2 = 0 := h9; rcases h7 with h8 | h8 <;> (first | exact c_84_5932 h8.symm | exact c_84_5935 h8.symm)))]; rfl))) rfl dX12_taken_111
              · refine lv_aload_n hx hb dX12_taken_100 rfl (lv_at hl 1 rfl) ?_
                refine gf_X12_75 hC rfl hK hP 0 rfl rfl dX12_taken_101 ?_
                refine lv_iload_n hx hb dX12_taken_104 rfl (lv_at hl 2 rfl) ?_
                refine ald hC hK hP 3 rfl (vp_in_nI (by omega) (by omega)) (k := jt) (nI_clamp (by omega)) (v := fnsf jt) rfl dX12_taken_105 ?_
                refine lv_goto (tgt := 111) hx hb dX12_taken_106 (by decide) ?_
                exact RP (v := fnsf jt) hC ((by first | rfl | (simp only [nI_clamp (n := jt) (by omega), ifc_t ekq, ifc_t hkq, ifc_t ek8, ifc_t hk8, ifc_t ek9, ifc_t hk9, ifc_t hN, ifc_t a5926, ifc_t a5928, ifc_f c_37_5929, ifc_f c_84_5932, ifc_f c_84_5935, ifc_t c_97_5938, ifc_t (q := Wi x2 0 6 ∨ Wi x2 10 14) (Or.inl a5928), a5931, ifc_f (q := (1 : Int32) < 0) (by decide), ifc_f (q := UNl (1 : Int32).toNatClampNeg x2) (fun h9 => (show False from by have h7 : x2 = 1 ∨ x2 = 0 := h9; rcases h7 with h8 | h8 <;> (first | exact c_84_5932 h8.symm | exact c_84_5935 h8.symm)))]; done) | (simp only [nI_clamp (n := jt) (by omega), ifc_t ekq, ifc_t hkq, ifc_t ek8, ifc_t hk8, ifc_t ek9, ifc_t hk9, ifc_t hN, ifc_t a5926, ifc_t a5928, ifc_f c_37_5929, ifc_f c_84_5932, ifc_f c_84_5935, ifc_t c_97_5938, ifc_t (q := Wi x2 0 6 ∨ Wi x2 10 14) (Or.inl a5928), a5931, ifc_f (q := (1 : Int32) < 0) (by decide), ifc_f (q := UNl (1 : Int32).toNatClampNeg x2) (fun h9 => (show False from by have h7 : x2 = 1 ∨ x2 = 0 := h9; rcases h7 with h8 | h8 <;> (first | exact c_84_5932 h8.symm | exact c_84_5935 h8.symm)))]; rfl))) rfl dX12_taken_111
        · refine lv_istore_n (lv' := [(3, .int 2), (0, .ref h0), (1, .int (nI jt)), (2, .int x2)]) hx hb dX12_taken_70 rfl hl (by decide) rfl (fun ls hl => ?_)
          refine lv_iload_n hx hb dX12_taken_71 rfl (lv_at hl 0 rfl) ?_
          refine lv_if_ge (tgt := 78) hx hb dX12_taken_72 (by decide) (fun _ => ?_) (fun c9 => absurd (by decide) c9)
          refine lv_iload_n hx hb dX12_taken_78 rfl (lv_at hl 0 rfl) ?_
          refine lv_if_lt (tgt := 95) hx hb dX12_taken_79 (by decide) (fun c9 => absurd c9 (by decide)) (fun _ => ?_)
          refine lv_iload_n hx hb dX12_taken_82 rfl (lv_at hl 0 rfl) ?_
          refine lv_iload_n hx hb dX12_taken_83 rfl (lv_at hl 3 rfl) ?_
          refine lv_icmp_eq (tgt := 95) hx hb dX12_taken_84 (by decide) (fun c_84_5939 => ?_) (fun c_84_5939 => ?_)
          · refine lv_iload_n hx hb dX12_taken_95 rfl (lv_at hl 0 rfl) ?_
            refine lv_iload_n hx hb dX12_taken_96 rfl (lv_at hl 3 rfl) ?_
            refine lv_icmp_ne (tgt := 109) hx hb dX12_taken_97 (by decide) (fun c9 => absurd (c_84_5939) c9) (fun _ => ?_)
            refine lv_aload_n hx hb dX12_taken_100 rfl (lv_at hl 1 rfl) ?_
            refine gf_X12_75 hC rfl hK hP 0 rfl rfl dX12_taken_101 ?_
            refine lv_iload_n hx hb dX12_taken_104 rfl (lv_at hl 2 rfl) ?_
            refine ald hC hK hP 3 rfl (vp_in_nI (by omega) (by omega)) (k := jt) (nI_clamp (by omega)) (v := fnsf jt) rfl dX12_taken_105 ?_
            refine lv_goto (tgt := 111) hx hb dX12_taken_106 (by decide) ?_
            exact RP (v := fnsf jt) hC ((by first | rfl | (simp only [nI_clamp (n := jt) (by omega), ifc_t ekq, ifc_t hkq, ifc_t ek8, ifc_t hk8, ifc_t ek9, ifc_t hk9, ifc_t hN, ifc_t a5926, ifc_t a5928, ifc_f c_37_5929, ifc_t c_84_5939, ifc_t (q := Wi x2 0 6 ∨ Wi x2 10 14) (Or.inl a5928), a5931, ifc_f (q := (2 : Int32) < 0) (by decide), ifc_t (q := UNl (2 : Int32).toNatClampNeg x2) (show UNl 2 x2 from Or.inl (c_84_5939.symm))]; done) | (simp only [nI_clamp (n := jt) (by omega), ifc_t ekq, ifc_t hkq, ifc_t ek8, ifc_t hk8, ifc_t ek9, ifc_t hk9, ifc_t hN, ifc_t a5926, ifc_t a5928, ifc_f c_37_5929, ifc_t c_84_5939, ifc_t (q := Wi x2 0 6 ∨ Wi x2 10 14) (Or.inl a5928), a5931, ifc_f (q := (2 : Int32) < 0) (by decide), ifc_t (q := UNl (2 : Int32).toNatClampNeg x2) (show UNl 2 x2 from Or.inl (c_84_5939.symm))]; rfl))) rfl dX12_taken_111
          · refine lv_iload_n hx hb dX12_taken_87 rfl (lv_at hl 0 rfl) ?_
            refine pS hC hK hl (m_above2 l G) si_X12_348 rfl rfl (Nat.le_of_ble_eq_true rfl) ⟨Nat.le_of_ble_eq_true rfl, Nat.le_of_ble_eq_true rfl⟩ ⟨by first | exact Nat.le_of_ble_eq_true rfl | exact Nat.zero_le _, by first | exact Nat.le_of_ble_eq_true rfl | exact Nat.zero_le _⟩ dX12_taken_88 (fun r5940 hr5940 => ?_)
            obtain rfl := hr5940
            refine lv_istore_n (lv' := [(3, .int 0), (0, .ref h0), (1, .int (nI jt)), (2, .int x2)]) hx hb dX12_taken_91 rfl hl (by decide) rfl (fun ls hl => ?_)
            refine lv_goto (tgt := 78) hx hb dX12_taken_92 (by decide) ?_
            refine lv_iload_n hx hb dX12_taken_78 rfl (lv_at hl 0 rfl) ?_
            refine lv_if_lt (tgt := 95) hx hb dX12_taken_79 (by decide) (fun c9 => absurd c9 (by decide)) (fun _ => ?_)
            refine lv_iload_n hx hb dX12_taken_82 rfl (lv_at hl 0 rfl) ?_
            refine lv_iload_n hx hb dX12_taken_83 rfl (lv_at hl 3 rfl) ?_
            refine lv_icmp_eq (tgt := 95) hx hb dX12_taken_84 (by decide) (fun c_84_5942 => ?_) (fun c_84_5942 => ?_)
            · refine lv_iload_n hx hb dX12_taken_95 rfl (lv_at hl 0 rfl) ?_
              refine lv_iload_n hx hb dX12_taken_96 rfl (lv_at hl 3 rfl) ?_
              refine lv_icmp_ne (tgt := 109) hx hb dX12_taken_97 (by decide) (fun c9 => absurd (c_84_5942) c9) (fun _ => ?_)
              refine lv_aload_n hx hb dX12_taken_100 rfl (lv_at hl 1 rfl) ?_
              refine gf_X12_75 hC rfl hK hP 0 rfl rfl dX12_taken_101 ?_
              refine lv_iload_n hx hb dX12_taken_104 rfl (lv_at hl 2 rfl) ?_
              refine ald hC hK hP 3 rfl (vp_in_nI (by omega) (by omega)) (k := jt) (nI_clamp (by omega)) (v := fnsf jt) rfl dX12_taken_105 ?_
              refine lv_goto (tgt := 111) hx hb dX12_taken_106 (by decide) ?_
              exact RP (v := fnsf jt) hC ((by first | rfl | (simp only [nI_clamp (n := jt) (by omega), ifc_t ekq, ifc_t hkq, ifc_t ek8, ifc_t hk8, ifc_t ek9, ifc_t hk9, ifc_t hN, ifc_t a5926, ifc_t a5928, ifc_f c_37_5929, ifc_f c_84_5939, ifc_t c_84_5942, ifc_t (q := Wi x2 0 6 ∨ Wi x2 10 14) (Or.inl a5928), a5931, ifc_f (q := (2 : Int32) < 0) (by decide), ifc_t (q := UNl (2 : Int32).toNatClampNeg x2) (show UNl 2 x2 from Or.inr (c_84_5942.symm))]; done) | (simp only [nI_clamp (n := jt) (by omega), ifc_t ekq, ifc_t hkq, ifc_t ek8, ifc_t hk8, ifc_t ek9, ifc_t hk9, ifc_t hN, ifc_t a5926, ifc_t a5928, ifc_f c_37_5929, ifc_f c_84_5939, ifc_t c_84_5942, ifc_t (q := Wi x2 0 6 ∨ Wi x2 10 14) (Or.inl a5928), a5931, ifc_f (q := (2 : Int32) < 0) (by decide), ifc_t (q := UNl (2 : Int32).toNatClampNeg x2) (show UNl 2 x2 from Or.inr (c_84_5942.symm))]; rfl))) rfl dX12_taken_111
            · refine lv_iload_n hx hb dX12_taken_87 rfl (lv_at hl 0 rfl) ?_
              refine pS hC hK hl (m_above0 l G) si_X12_348 rfl rfl (Nat.le_of_ble_eq_true rfl) ⟨Nat.le_of_ble_eq_true rfl, Nat.le_of_ble_eq_true rfl⟩ ⟨by first | exact Nat.le_of_ble_eq_true rfl | exact Nat.zero_le _, by first | exact Nat.le_of_ble_eq_true rfl | exact Nat.zero_le _⟩ dX12_taken_88 (fun r5943 hr5943 => ?_)
              obtain rfl := hr5943
              refine lv_istore_n (lv' := [(3, .int (-1)), (0, .ref h0), (1, .int (nI jt)), (2, .int x2)]) hx hb dX12_taken_91 rfl hl (by decide) rfl (fun ls hl => ?_)
              refine lv_goto (tgt := 78) hx hb dX12_taken_92 (by decide) ?_
              refine lv_iload_n hx hb dX12_taken_78 rfl (lv_at hl 0 rfl) ?_
              refine lv_if_lt (tgt := 95) hx hb dX12_taken_79 (by decide) (fun _ => ?_) (fun c9 => absurd (by decide) c9)
              refine lv_iload_n hx hb dX12_taken_95 rfl (lv_at hl 0 rfl) ?_
              refine lv_iload_n hx hb dX12_taken_96 rfl (lv_at hl 3 rfl) ?_
              refine lv_icmp_ne (tgt := 109) hx hb dX12_taken_97 (by decide) (fun c_97_5945 => ?_) (fun c_97_5945 => ?_)
              · refine lv_bipush (v := (-13)) hx hb dX12_taken_109 (by decide) ?_
                exact RP (v := (-13)) hC ((by first | rfl | (simp only [nI_clamp (n := jt) (by omega), ifc_t ekq, ifc_t hkq, ifc_t ek8, ifc_t hk8, ifc_t ek9, ifc_t hk9, ifc_t hN, ifc_t a5926, ifc_t a5928, ifc_f c_37_5929, ifc_f c_84_5939, ifc_f c_84_5942, ifc_f c_97_5945, ifc_t (q := Wi x2 0 6 ∨ Wi x2 10 14) (Or.inl a5928), a5931, ifc_f (q := (2 : Int32) < 0) (by decide), ifc_f (q := UNl (2 : Int32).toNatClampNeg x2) (fun h9 => (show False from by have h7 : x2 = 2 ∨ x2 = 0 := h9; rcases h7 with h8 | h8 <;> (first | exact c_84_5939 h8.symm | exact c_84_5942 h8.symm)))]; done) | (simp only [nI_clamp (n := jt) (by omega), ifc_t ekq, ifc_t hkq, ifc_t ek8, ifc_t hk8, ifc_t ek9, ifc_t hk9, ifc_t hN, ifc_t a5926, ifc_t a5928, ifc_f c_37_5929, ifc_f c_84_5939, ifc_f c_84_5942, ifc_f c_97_5945, ifc_t (q := Wi x2 0 6 ∨ Wi x2 10 14) (Or.inl a5928), a5931, ifc_f (q := (2 : Int32) < 0) (by decide), ifc_f (q := UNl (2 : Int32).toNatClampNeg x2) (fun h9 => (show False from by have h7 : x2 = 2 ∨ x2 = 0 := h9; rcases h7 with h8 | h8 <;> (first | exact c_84_5939 h8.symm | exact c_84_5942 h8.symm)))]; rfl))) rfl dX12_taken_111
              · refine lv_aload_n hx hb dX12_taken_100 rfl (lv_at hl 1 rfl) ?_
                refine gf_X12_75 hC rfl hK hP 0 rfl rfl dX12_taken_101 ?_
                refine lv_iload_n hx hb dX12_taken_104 rfl (lv_at hl 2 rfl) ?_
                refine ald hC hK hP 3 rfl (vp_in_nI (by omega) (by omega)) (k := jt) (nI_clamp (by omega)) (v := fnsf jt) rfl dX12_taken_105 ?_
                refine lv_goto (tgt := 111) hx hb dX12_taken_106 (by decide) ?_
                exact RP (v := fnsf jt) hC ((by first | rfl | (simp only [nI_clamp (n := jt) (by omega), ifc_t ekq, ifc_t hkq, ifc_t ek8, ifc_t hk8, ifc_t ek9, ifc_t hk9, ifc_t hN, ifc_t a5926, ifc_t a5928, ifc_f c_37_5929, ifc_f c_84_5939, ifc_f c_84_5942, ifc_t c_97_5945, ifc_t (q := Wi x2 0 6 ∨ Wi x2 10 14) (Or.inl a5928), a5931, ifc_f (q := (2 : Int32) < 0) (by decide), ifc_f (q := UNl (2 : Int32).toNatClampNeg x2) (fun h9 => (show False from by have h7 : x2 = 2 ∨ x2 = 0 := h9; rcases h7 with h8 | h8 <;> (first | exact c_84_5939 h8.symm | exact c_84_5942 h8.symm)))]; done) | (simp only [nI_clamp (n := jt) (by omega), ifc_t ekq, ifc_t hkq, ifc_t ek8, ifc_t hk8, ifc_t ek9, ifc_t hk9, ifc_t hN, ifc_t a5926, ifc_t a5928, ifc_f c_37_5929, ifc_f c_84_5939, ifc_f c_84_5942, ifc_t c_97_5945, ifc_t (q := Wi x2 0 6 ∨ Wi x2 10 14) (Or.inl a5928), a5931, ifc_f (q := (2 : Int32) < 0) (by decide), ifc_f (q := UNl (2 : Int32).toNatClampNeg x2) (fun h9 => (show False from by have h7 : x2 = 2 ∨ x2 = 0 := h9; rcases h7 with h8 | h8 <;> (first | exact c_84_5939 h8.symm | exact c_84_5942 h8.symm)))]; rfl))) rfl dX12_taken_111
        · refine lv_istore_n (lv' := [(3, .int 3), (0, .ref h0), (1, .int (nI jt)), (2, .int x2)]) hx hb dX12_taken_70 rfl hl (by decide) rfl (fun ls hl => ?_)
          refine lv_iload_n hx hb dX12_taken_71 rfl (lv_at hl 0 rfl) ?_
          refine lv_if_ge (tgt := 78) hx hb dX12_taken_72 (by decide) (fun _ => ?_) (fun c9 => absurd (by decide) c9)
          refine lv_iload_n hx hb dX12_taken_78 rfl (lv_at hl 0 rfl) ?_
          refine lv_if_lt (tgt := 95) hx hb dX12_taken_79 (by decide) (fun c9 => absurd c9 (by decide)) (fun _ => ?_)
          refine lv_iload_n hx hb dX12_taken_82 rfl (lv_at hl 0 rfl) ?_
          refine lv_iload_n hx hb dX12_taken_83 rfl (lv_at hl 3 rfl) ?_
          refine lv_icmp_eq (tgt := 95) hx hb dX12_taken_84 (by decide) (fun c_84_5946 => ?_) (fun c_84_5946 => ?_)
          · refine lv_iload_n hx hb dX12_taken_95 rfl (lv_at hl 0 rfl) ?_
            refine lv_iload_n hx hb dX12_taken_96 rfl (lv_at hl 3 rfl) ?_
            refine lv_icmp_ne (tgt := 109) hx hb dX12_taken_97 (by decide) (fun c9 => absurd (c_84_5946) c9) (fun _ => ?_)
            refine lv_aload_n hx hb dX12_taken_100 rfl (lv_at hl 1 rfl) ?_
            refine gf_X12_75 hC rfl hK hP 0 rfl rfl dX12_taken_101 ?_
            refine lv_iload_n hx hb dX12_taken_104 rfl (lv_at hl 2 rfl) ?_
            refine ald hC hK hP 3 rfl (vp_in_nI (by omega) (by omega)) (k := jt) (nI_clamp (by omega)) (v := fnsf jt) rfl dX12_taken_105 ?_
            refine lv_goto (tgt := 111) hx hb dX12_taken_106 (by decide) ?_
            exact RP (v := fnsf jt) hC ((by first | rfl | (simp only [nI_clamp (n := jt) (by omega), ifc_t ekq, ifc_t hkq, ifc_t ek8, ifc_t hk8, ifc_t ek9, ifc_t hk9, ifc_t hN, ifc_t a5926, ifc_t a5928, ifc_f c_37_5929, ifc_t c_84_5946, ifc_t (q := Wi x2 0 6 ∨ Wi x2 10 14) (Or.inl a5928), a5931, ifc_f (q := (3 : Int32) < 0) (by decide), ifc_t (q := UNl (3 : Int32).toNatClampNeg x2) (show UNl 3 x2 from Or.inl (c_84_5946.symm))]; done) | (simp only [nI_clamp (n := jt) (by omega), ifc_t ekq, ifc_t hkq, ifc_t ek8, ifc_t hk8, ifc_t ek9, ifc_t hk9, ifc_t hN, ifc_t a5926, ifc_t a5928, ifc_f c_37_5929, ifc_t c_84_5946, ifc_t (q := Wi x2 0 6 ∨ Wi x2 10 14) (Or.inl a5928), a5931, ifc_f (q := (3 : Int32) < 0) (by decide), ifc_t (q := UNl (3 : Int32).toNatClampNeg x2) (show UNl 3 x2 from Or.inl (c_84_5946.symm))]; rfl))) rfl dX12_taken_111
          · refine lv_iload_n hx hb dX12_taken_87 rfl (lv_at hl 0 rfl) ?_
            refine pS hC hK hl (m_above3 l G) si_X12_348 rfl rfl (Nat.le_of_ble_eq_true rfl) ⟨Nat.le_of_ble_eq_true rfl, Nat.le_of_ble_eq_true rfl⟩ ⟨by first | exact Nat.le_of_ble_eq_true rfl | exact Nat.zero_le _, by first | exact Nat.le_of_ble_eq_true rfl | exact Nat.zero_le _⟩ dX12_taken_88 (fun r5947 hr5947 => ?_)
            obtain rfl := hr5947
            refine lv_istore_n (lv' := [(3, .int 1), (0, .ref h0), (1, .int (nI jt)), (2, .int x2)]) hx hb dX12_taken_91 rfl hl (by decide) rfl (fun ls hl => ?_)
            refine lv_goto (tgt := 78) hx hb dX12_taken_92 (by decide) ?_
            refine lv_iload_n hx hb dX12_taken_78 rfl (lv_at hl 0 rfl) ?_
            refine lv_if_lt (tgt := 95) hx hb dX12_taken_79 (by decide) (fun c9 => absurd c9 (by decide)) (fun _ => ?_)
            refine lv_iload_n hx hb dX12_taken_82 rfl (lv_at hl 0 rfl) ?_
            refine lv_iload_n hx hb dX12_taken_83 rfl (lv_at hl 3 rfl) ?_
            refine lv_icmp_eq (tgt := 95) hx hb dX12_taken_84 (by decide) (fun c_84_5949 => ?_) (fun c_84_5949 => ?_)
            · refine lv_iload_n hx hb dX12_taken_95 rfl (lv_at hl 0 rfl) ?_
              refine lv_iload_n hx hb dX12_taken_96 rfl (lv_at hl 3 rfl) ?_
              refine lv_icmp_ne (tgt := 109) hx hb dX12_taken_97 (by decide) (fun c9 => absurd (c_84_5949) c9) (fun _ => ?_)
              refine lv_aload_n hx hb dX12_taken_100 rfl (lv_at hl 1 rfl) ?_
              refine gf_X12_75 hC rfl hK hP 0 rfl rfl dX12_taken_101 ?_
              refine lv_iload_n hx hb dX12_taken_104 rfl (lv_at hl 2 rfl) ?_
              refine ald hC hK hP 3 rfl (vp_in_nI (by omega) (by omega)) (k := jt) (nI_clamp (by omega)) (v := fnsf jt) rfl dX12_taken_105 ?_
              refine lv_goto (tgt := 111) hx hb dX12_taken_106 (by decide) ?_
              exact RP (v := fnsf jt) hC ((by first | rfl | (simp only [nI_clamp (n := jt) (by omega), ifc_t ekq, ifc_t hkq, ifc_t ek8, ifc_t hk8, ifc_t ek9, ifc_t hk9, ifc_t hN, ifc_t a5926, ifc_t a5928, ifc_f c_37_5929, ifc_f c_84_5946, ifc_t c_84_5949, ifc_t (q := Wi x2 0 6 ∨ Wi x2 10 14) (Or.inl a5928), a5931, ifc_f (q := (3 : Int32) < 0) (by decide), ifc_t (q := UNl (3 : Int32).toNatClampNeg x2) (show UNl 3 x2 from Or.inr (Or.inl (c_84_5949.symm)))]; done) | (simp only [nI_clamp (n := jt) (by omega), ifc_t ekq, ifc_t hkq, ifc_t ek8, ifc_t hk8, ifc_t ek9, ifc_t hk9, ifc_t hN, ifc_t a5926, ifc_t a5928, ifc_f c_37_5929, ifc_f c_84_5946, ifc_t c_84_5949, ifc_t (q := Wi x2 0 6 ∨ Wi x2 10 14) (Or.inl a5928), a5931, ifc_f (q := (3 : Int32) < 0) (by decide), ifc_t (q := UNl (3 : Int32).toNatClampNeg x2) (show UNl 3 x2 from Or.inr (Or.inl (c_84_5949.symm)))]; rfl))) rfl dX12_taken_111
            · refine lv_iload_n hx hb dX12_taken_87 rfl (lv_at hl 0 rfl) ?_
              refine pS hC hK hl (m_above1 l G) si_X12_348 rfl rfl (Nat.le_of_ble_eq_true rfl) ⟨Nat.le_of_ble_eq_true rfl, Nat.le_of_ble_eq_true rfl⟩ ⟨by first | exact Nat.le_of_ble_eq_true rfl | exact Nat.zero_le _, by first | exact Nat.le_of_ble_eq_true rfl | exact Nat.zero_le _⟩ dX12_taken_88 (fun r5950 hr5950 => ?_)
              obtain rfl := hr5950
              refine lv_istore_n (lv' := [(3, .int 0), (0, .ref h0), (1, .int (nI jt)), (2, .int x2)]) hx hb dX12_taken_91 rfl hl (by decide) rfl (fun ls hl => ?_)
              refine lv_goto (tgt := 78) hx hb dX12_taken_92 (by decide) ?_
              refine lv_iload_n hx hb dX12_taken_78 rfl (lv_at hl 0 rfl) ?_
              refine lv_if_lt (tgt := 95) hx hb dX12_taken_79 (by decide) (fun c9 => absurd c9 (by decide)) (fun _ => ?_)
              refine lv_iload_n hx hb dX12_taken_82 rfl (lv_at hl 0 rfl) ?_
              refine lv_iload_n hx hb dX12_taken_83 rfl (lv_at hl 3 rfl) ?_
              refine lv_icmp_eq (tgt := 95) hx hb dX12_taken_84 (by decide) (fun c_84_5952 => ?_) (fun c_84_5952 => ?_)
              · refine lv_iload_n hx hb dX12_taken_95 rfl (lv_at hl 0 rfl) ?_
                refine lv_iload_n hx hb dX12_taken_96 rfl (lv_at hl 3 rfl) ?_
                refine lv_icmp_ne (tgt := 109) hx hb dX12_taken_97 (by decide) (fun c9 => absurd (c_84_5952) c9) (fun _ => ?_)
                refine lv_aload_n hx hb dX12_taken_100 rfl (lv_at hl 1 rfl) ?_
                refine gf_X12_75 hC rfl hK hP 0 rfl rfl dX12_taken_101 ?_
                refine lv_iload_n hx hb dX12_taken_104 rfl (lv_at hl 2 rfl) ?_
                refine ald hC hK hP 3 rfl (vp_in_nI (by omega) (by omega)) (k := jt) (nI_clamp (by omega)) (v := fnsf jt) rfl dX12_taken_105 ?_
                refine lv_goto (tgt := 111) hx hb dX12_taken_106 (by decide) ?_
                exact RP (v := fnsf jt) hC ((by first | rfl | (simp only [nI_clamp (n := jt) (by omega), ifc_t ekq, ifc_t hkq, ifc_t ek8, ifc_t hk8, ifc_t ek9, ifc_t hk9, ifc_t hN, ifc_t a5926, ifc_t a5928, ifc_f c_37_5929, ifc_f c_84_5946, ifc_f c_84_5949, ifc_t c_84_5952, ifc_t (q := Wi x2 0 6 ∨ Wi x2 10 14) (Or.inl a5928), a5931, ifc_f (q := (3 : Int32) < 0) (by decide), ifc_t (q := UNl (3 : Int32).toNatClampNeg x2) (show UNl 3 x2 from Or.inr (Or.inr (c_84_5952.symm)))]; done) | (simp only [nI_clamp (n := jt) (by omega), ifc_t ekq, ifc_t hkq, ifc_t ek8, ifc_t hk8, ifc_t ek9, ifc_t hk9, ifc_t hN, ifc_t a5926, ifc_t a5928, ifc_f c_37_5929, ifc_f c_84_5946, ifc_f c_84_5949, ifc_t c_84_5952, ifc_t (q := Wi x2 0 6 ∨ Wi x2 10 14) (Or.inl a5928), a5931, ifc_f (q := (3 : Int32) < 0) (by decide), ifc_t (q := UNl (3 : Int32).toNatClampNeg x2) (show UNl 3 x2 from Or.inr (Or.inr (c_84_5952.symm)))]; rfl))) rfl dX12_taken_111
              · refine lv_iload_n hx hb dX12_taken_87 rfl (lv_at hl 0 rfl) ?_
                refine pS hC hK hl (m_above0 l G) si_X12_348 rfl rfl (Nat.le_of_ble_eq_true rfl) ⟨Nat.le_of_ble_eq_true rfl, Nat.le_of_ble_eq_true rfl⟩ ⟨by first | exact Nat.le_of_ble_eq_true rfl | exact Nat.zero_le _, by first | exact Nat.le_of_ble_eq_true rfl | exact Nat.zero_le _⟩ dX12_taken_88 (fun r5953 hr5953 => ?_)
                obtain rfl := hr5953
                refine lv_istore_n (lv' := [(3, .int (-1)), (0, .ref h0), (1, .int (nI jt)), (2, .int x2)]) hx hb dX12_taken_91 rfl hl (by decide) rfl (fun ls hl => ?_)
                refine lv_goto (tgt := 78) hx hb dX12_taken_92 (by decide) ?_
                refine lv_iload_n hx hb dX12_taken_78 rfl (lv_at hl 0 rfl) ?_
                refine lv_if_lt (tgt := 95) hx hb dX12_taken_79 (by decide) (fun _ => ?_) (fun c9 => absurd (by decide) c9)
                refine lv_iload_n hx hb dX12_taken_95 rfl (lv_at hl 0 rfl) ?_
                refine lv_iload_n hx hb dX12_taken_96 rfl (lv_at hl 3 rfl) ?_
                refine lv_icmp_ne (tgt := 109) hx hb dX12_taken_97 (by decide) (fun c_97_5955 => ?_) (fun c_97_5955 => ?_)
                · refine lv_bipush (v := (-13)) hx hb dX12_taken_109 (by decide) ?_
                  exact RP (v := (-13)) hC ((by first | rfl | (simp only [nI_clamp (n := jt) (by omega), ifc_t ekq, ifc_t hkq, ifc_t ek8, ifc_t hk8, ifc_t ek9, ifc_t hk9, ifc_t hN, ifc_t a5926, ifc_t a5928, ifc_f c_37_5929, ifc_f c_84_5946, ifc_f c_84_5949, ifc_f c_84_5952, ifc_f c_97_5955, ifc_t (q := Wi x2 0 6 ∨ Wi x2 10 14) (Or.inl a5928), a5931, ifc_f (q := (3 : Int32) < 0) (by decide), ifc_f (q := UNl (3 : Int32).toNatClampNeg x2) (fun h9 => (show False from by have h7 : x2 = 3 ∨ x2 = 1 ∨ x2 = 0 := h9; rcases h7 with h8 | h8 | h8 <;> (first | exact c_84_5946 h8.symm | exact c_84_5949 h8.symm | exact c_84_5952 h8.symm)))]; done) | (simp only [nI_clamp (n := jt) (by omega), ifc_t ekq, ifc_t hkq, ifc_t ek8, ifc_t hk8, ifc_t ek9, ifc_t hk9, ifc_t hN, ifc_t a5926, ifc_t a5928, ifc_f c_37_5929, ifc_f c_84_5946, ifc_f c_84_5949, ifc_f c_84_5952, ifc_f c_97_5955, ifc_t (q := Wi x2 0 6 ∨ Wi x2 10 14) (Or.inl a5928), a5931, ifc_f (q := (3 : Int32) < 0) (by decide), ifc_f (q := UNl (3 : Int32).toNatClampNeg x2) (fun h9 => (show False from by have h7 : x2 = 3 ∨ x2 = 1 ∨ x2 = 0 := h9; rcases h7 with h8 | h8 | h8 <;> (first | exact c_84_5946 h8.symm | exact c_84_5949 h8.symm | exact c_84_5952 h8.symm)))]; rfl))) rfl dX12_taken_111
                · refine lv_aload_n hx hb dX12_taken_100 rfl (lv_at hl 1 rfl) ?_
                  refine gf_X12_75 hC rfl hK hP 0 rfl rfl dX12_taken_101 ?_
                  refine lv_iload_n hx hb dX12_taken_104 rfl (lv_at hl 2 rfl) ?_
                  refine ald hC hK hP 3 rfl (vp_in_nI (by omega) (by omega)) (k := jt) (nI_clamp (by omega)) (v := fnsf jt) rfl dX12_taken_105 ?_
                  refine lv_goto (tgt := 111) hx hb dX12_taken_106 (by decide) ?_
                  exact RP (v := fnsf jt) hC ((by first | rfl | (simp only [nI_clamp (n := jt) (by omega), ifc_t ekq, ifc_t hkq, ifc_t ek8, ifc_t hk8, ifc_t ek9, ifc_t hk9, ifc_t hN, ifc_t a5926, ifc_t a5928, ifc_f c_37_5929, ifc_f c_84_5946, ifc_f c_84_5949, ifc_f c_84_5952, ifc_t c_97_5955, ifc_t (q := Wi x2 0 6 ∨ Wi x2 10 14) (Or.inl a5928), a5931, ifc_f (q := (3 : Int32) < 0) (by decide), ifc_f (q := UNl (3 : Int32).toNatClampNeg x2) (fun h9 => (show False from by have h7 : x2 = 3 ∨ x2 = 1 ∨ x2 = 0 := h9; rcases h7 with h8 | h8 | h8 <;> (first | exact c_84_5946 h8.symm | exact c_84_5949 h8.symm | exact c_84_5952 h8.symm)))]; done) | (simp only [nI_clamp (n := jt) (by omega), ifc_t ekq, ifc_t hkq, ifc_t ek8, ifc_t hk8, ifc_t ek9, ifc_t hk9, ifc_t hN, ifc_t a5926, ifc_t a5928, ifc_f c_37_5929, ifc_f c_84_5946, ifc_f c_84_5949, ifc_f c_84_5952, ifc_t c_97_5955, ifc_t (q := Wi x2 0 6 ∨ Wi x2 10 14) (Or.inl a5928), a5931, ifc_f (q := (3 : Int32) < 0) (by decide), ifc_f (q := UNl (3 : Int32).toNatClampNeg x2) (fun h9 => (show False from by have h7 : x2 = 3 ∨ x2 = 1 ∨ x2 = 0 := h9; rcases h7 with h8 | h8 | h8 <;> (first | exact c_84_5946 h8.symm | exact c_84_5949 h8.symm | exact c_84_5952 h8.symm)))]; rfl))) rfl dX12_taken_111
        · refine lv_istore_n (lv' := [(3, .int 4), (0, .ref h0), (1, .int (nI jt)), (2, .int x2)]) hx hb dX12_taken_70 rfl hl (by decide) rfl (fun ls hl => ?_)
          refine lv_iload_n hx hb dX12_taken_71 rfl (lv_at hl 0 rfl) ?_
          refine lv_if_ge (tgt := 78) hx hb dX12_taken_72 (by decide) (fun _ => ?_) (fun c9 => absurd (by decide) c9)
          refine lv_iload_n hx hb dX12_taken_78 rfl (lv_at hl 0 rfl) ?_
          refine lv_if_lt (tgt := 95) hx hb dX12_taken_79 (by decide) (fun c9 => absurd c9 (by decide)) (fun _ => ?_)
          refine lv_iload_n hx hb dX12_taken_82 rfl (lv_at hl 0 rfl) ?_
          refine lv_iload_n hx hb dX12_taken_83 rfl (lv_at hl 3 rfl) ?_
          refine lv_icmp_eq (tgt := 95) hx hb dX12_taken_84 (by decide) (fun c_84_5956 => ?_) (fun c_84_5956 => ?_)
          · refine lv_iload_n hx hb dX12_taken_95 rfl (lv_at hl 0 rfl) ?_
            refine lv_iload_n hx hb dX12_taken_96 rfl (lv_at hl 3 rfl) ?_
            refine lv_icmp_ne (tgt := 109) hx hb dX12_taken_97 (by decide) (fun c9 => absurd (c_84_5956) c9) (fun _ => ?_)
            refine lv_aload_n hx hb dX12_taken_100 rfl (lv_at hl 1 rfl) ?_
            refine gf_X12_75 hC rfl hK hP 0 rfl rfl dX12_taken_101 ?_
            refine lv_iload_n hx hb dX12_taken_104 rfl (lv_at hl 2 rfl) ?_
            refine ald hC hK hP 3 rfl (vp_in_nI (by omega) (by omega)) (k := jt) (nI_clamp (by omega)) (v := fnsf jt) rfl dX12_taken_105 ?_
            refine lv_goto (tgt := 111) hx hb dX12_taken_106 (by decide) ?_
            exact RP (v := fnsf jt) hC ((by first | rfl | (simp only [nI_clamp (n := jt) (by omega), ifc_t ekq, ifc_t hkq, ifc_t ek8, ifc_t hk8, ifc_t ek9, ifc_t hk9, ifc_t hN, ifc_t a5926, ifc_t a5928, ifc_f c_37_5929, ifc_t c_84_5956, ifc_t (q := Wi x2 0 6 ∨ Wi x2 10 14) (Or.inl a5928), a5931, ifc_f (q := (4 : Int32) < 0) (by decide), ifc_t (q := UNl (4 : Int32).toNatClampNeg x2) (show UNl 4 x2 from Or.inl (c_84_5956.symm))]; done) | (simp only [nI_clamp (n := jt) (by omega), ifc_t ekq, ifc_t hkq, ifc_t ek8, ifc_t hk8, ifc_t ek9, ifc_t hk9, ifc_t hN, ifc_t a5926, ifc_t a5928, ifc_f c_37_5929, ifc_t c_84_5956, ifc_t (q := Wi x2 0 6 ∨ Wi x2 10 14) (Or.inl a5928), a5931, ifc_f (q := (4 : Int32) < 0) (by decide), ifc_t (q := UNl (4 : Int32).toNatClampNeg x2) (show UNl 4 x2 from Or.inl (c_84_5956.symm))]; rfl))) rfl dX12_taken_111
          · refine lv_iload_n hx hb dX12_taken_87 rfl (lv_at hl 0 rfl) ?_
            refine pS hC hK hl (m_above4 l G) si_X12_348 rfl rfl (Nat.le_of_ble_eq_true rfl) ⟨Nat.le_of_ble_eq_true rfl, Nat.le_of_ble_eq_true rfl⟩ ⟨by first | exact Nat.le_of_ble_eq_true rfl | exact Nat.zero_le _, by first | exact Nat.le_of_ble_eq_true rfl | exact Nat.zero_le _⟩ dX12_taken_88 (fun r5957 hr5957 => ?_)
            obtain rfl := hr5957
            refine lv_istore_n (lv' := [(3, .int 0), (0, .ref h0), (1, .int (nI jt)), (2, .int x2)]) hx hb dX12_taken_91 rfl hl (by decide) rfl (fun ls hl => ?_)
            refine lv_goto (tgt := 78) hx hb dX12_taken_92 (by decide) ?_
            refine lv_iload_n hx hb dX12_taken_78 rfl (lv_at hl 0 rfl) ?_
            refine lv_if_lt (tgt := 95) hx hb dX12_taken_79 (by decide) (fun c9 => absurd c9 (by decide)) (fun _ => ?_)
            refine lv_iload_n hx hb dX12_taken_82 rfl (lv_at hl 0 rfl) ?_
            refine lv_iload_n hx hb dX12_taken_83 rfl (lv_at hl 3 rfl) ?_
            refine lv_icmp_eq (tgt := 95) hx hb dX12_taken_84 (by decide) (fun c_84_5959 => ?_) (fun c_84_5959 => ?_)
            · refine lv_iload_n hx hb dX12_taken_95 rfl (lv_at hl 0 rfl) ?_
              refine lv_iload_n hx hb dX12_taken_96 rfl (lv_at hl 3 rfl) ?_
              refine lv_icmp_ne (tgt := 109) hx hb dX12_taken_97 (by decide) (fun c9 => absurd (c_84_5959) c9) (fun _ => ?_)
              refine lv_aload_n hx hb dX12_taken_100 rfl (lv_at hl 1 rfl) ?_
              refine gf_X12_75 hC rfl hK hP 0 rfl rfl dX12_taken_101 ?_
              refine lv_iload_n hx hb dX12_taken_104 rfl (lv_at hl 2 rfl) ?_
              refine ald hC hK hP 3 rfl (vp_in_nI (by omega) (by omega)) (k := jt) (nI_clamp (by omega)) (v := fnsf jt) rfl dX12_taken_105 ?_
              refine lv_goto (tgt := 111) hx hb dX12_taken_106 (by decide) ?_
              exact RP (v := fnsf jt) hC ((by first | rfl | (simp only [nI_clamp (n := jt) (by omega), ifc_t ekq, ifc_t hkq, ifc_t ek8, ifc_t hk8, ifc_t ek9, ifc_t hk9, ifc_t hN, ifc_t a5926, ifc_t a5928, ifc_f c_37_5929, ifc_f c_84_5956, ifc_t c_84_5959, ifc_t (q := Wi x2 0 6 ∨ Wi x2 10 14) (Or.inl a5928), a5931, ifc_f (q := (4 : Int32) < 0) (by decide), ifc_t (q := UNl (4 : Int32).toNatClampNeg x2) (show UNl 4 x2 from Or.inr (c_84_5959.symm))]; done) | (simp only [nI_clamp (n := jt) (by omega), ifc_t ekq, ifc_t hkq, ifc_t ek8, ifc_t hk8, ifc_t ek9, ifc_t hk9, ifc_t hN, ifc_t a5926, ifc_t a5928, ifc_f c_37_5929, ifc_f c_84_5956, ifc_t c_84_5959, ifc_t (q := Wi x2 0 6 ∨ Wi x2 10 14) (Or.inl a5928), a5931, ifc_f (q := (4 : Int32) < 0) (by decide), ifc_t (q := UNl (4 : Int32).toNatClampNeg x2) (show UNl 4 x2 from Or.inr (c_84_5959.symm))]; rfl))) rfl dX12_taken_111
            · refine lv_iload_n hx hb dX12_taken_87 rfl (lv_at hl 0 rfl) ?_
              refine pS hC hK hl (m_above0 l G) si_X12_348 rfl rfl (Nat.le_of_ble_eq_true rfl) ⟨Nat.le_of_ble_eq_true rfl, Nat.le_of_ble_eq_true rfl⟩ ⟨by first | exact Nat.le_of_ble_eq_true rfl | exact Nat.zero_le _, by first | exact Nat.le_of_ble_eq_true rfl | exact Nat.zero_le _⟩ dX12_taken_88 (fun r5960 hr5960 => ?_)
              obtain rfl := hr5960
              refine lv_istore_n (lv' := [(3, .int (-1)), (0, .ref h0), (1, .int (nI jt)), (2, .int x2)]) hx hb dX12_taken_91 rfl hl (by decide) rfl (fun ls hl => ?_)
              refine lv_goto (tgt := 78) hx hb dX12_taken_92 (by decide) ?_
              refine lv_iload_n hx hb dX12_taken_78 rfl (lv_at hl 0 rfl) ?_
              refine lv_if_lt (tgt := 95) hx hb dX12_taken_79 (by decide) (fun _ => ?_) (fun c9 => absurd (by decide) c9)
              refine lv_iload_n hx hb dX12_taken_95 rfl (lv_at hl 0 rfl) ?_
              refine lv_iload_n hx hb dX12_taken_96 rfl (lv_at hl 3 rfl) ?_
              refine lv_icmp_ne (tgt := 109) hx hb dX12_taken_97 (by decide) (fun c_97_5962 => ?_) (fun c_97_5962 => ?_)
              · refine lv_bipush (v := (-13)) hx hb dX12_taken_109 (by decide) ?_
                exact RP (v := (-13)) hC ((by first | rfl | (simp only [nI_clamp (n := jt) (by omega), ifc_t ekq, ifc_t hkq, ifc_t ek8, ifc_t hk8, ifc_t ek9, ifc_t hk9, ifc_t hN, ifc_t a5926, ifc_t a5928, ifc_f c_37_5929, ifc_f c_84_5956, ifc_f c_84_5959, ifc_f c_97_5962, ifc_t (q := Wi x2 0 6 ∨ Wi x2 10 14) (Or.inl a5928), a5931, ifc_f (q := (4 : Int32) < 0) (by decide), ifc_f (q := UNl (4 : Int32).toNatClampNeg x2) (fun h9 => (show False from by have h7 : x2 = 4 ∨ x2 = 0 := h9; rcases h7 with h8 | h8 <;> (first | exact c_84_5956 h8.symm | exact c_84_5959 h8.symm)))]; done) | (simp only [nI_clamp (n := jt) (by omega), ifc_t ekq, ifc_t hkq, ifc_t ek8, ifc_t hk8, ifc_t ek9, ifc_t hk9, ifc_t hN, ifc_t a5926, ifc_t a5928, ifc_f c_37_5929, ifc_f c_84_5956, ifc_f c_84_5959, ifc_f c_97_5962, ifc_t (q := Wi x2 0 6 ∨ Wi x2 10 14) (Or.inl a5928), a5931, ifc_f (q := (4 : Int32) < 0) (by decide), ifc_f (q := UNl (4 : Int32).toNatClampNeg x2) (fun h9 => (show False from by have h7 : x2 = 4 ∨ x2 = 0 := h9; rcases h7 with h8 | h8 <;> (first | exact c_84_5956 h8.symm | exact c_84_5959 h8.symm)))]; rfl))) rfl dX12_taken_111
              · refine lv_aload_n hx hb dX12_taken_100 rfl (lv_at hl 1 rfl) ?_
                refine gf_X12_75 hC rfl hK hP 0 rfl rfl dX12_taken_101 ?_
                refine lv_iload_n hx hb dX12_taken_104 rfl (lv_at hl 2 rfl) ?_
                refine ald hC hK hP 3 rfl (vp_in_nI (by omega) (by omega)) (k := jt) (nI_clamp (by omega)) (v := fnsf jt) rfl dX12_taken_105 ?_
                refine lv_goto (tgt := 111) hx hb dX12_taken_106 (by decide) ?_
                exact RP (v := fnsf jt) hC ((by first | rfl | (simp only [nI_clamp (n := jt) (by omega), ifc_t ekq, ifc_t hkq, ifc_t ek8, ifc_t hk8, ifc_t ek9, ifc_t hk9, ifc_t hN, ifc_t a5926, ifc_t a5928, ifc_f c_37_5929, ifc_f c_84_5956, ifc_f c_84_5959, ifc_t c_97_5962, ifc_t (q := Wi x2 0 6 ∨ Wi x2 10 14) (Or.inl a5928), a5931, ifc_f (q := (4 : Int32) < 0) (by decide), ifc_f (q := UNl (4 : Int32).toNatClampNeg x2) (fun h9 => (show False from by have h7 : x2 = 4 ∨ x2 = 0 := h9; rcases h7 with h8 | h8 <;> (first | exact c_84_5956 h8.symm | exact c_84_5959 h8.symm)))]; done) | (simp only [nI_clamp (n := jt) (by omega), ifc_t ekq, ifc_t hkq, ifc_t ek8, ifc_t hk8, ifc_t ek9, ifc_t hk9, ifc_t hN, ifc_t a5926, ifc_t a5928, ifc_f c_37_5929, ifc_f c_84_5956, ifc_f c_84_5959, ifc_t c_97_5962, ifc_t (q := Wi x2 0 6 ∨ Wi x2 10 14) (Or.inl a5928), a5931, ifc_f (q := (4 : Int32) < 0) (by decide), ifc_f (q := UNl (4 : Int32).toNatClampNeg x2) (fun h9 => (show False from by have h7 : x2 = 4 ∨ x2 = 0 := h9; rcases h7 with h8 | h8 <;> (first | exact c_84_5956 h8.symm | exact c_84_5959 h8.symm)))]; rfl))) rfl dX12_taken_111
        · refine lv_istore_n (lv' := [(3, .int 5), (0, .ref h0), (1, .int (nI jt)), (2, .int x2)]) hx hb dX12_taken_70 rfl hl (by decide) rfl (fun ls hl => ?_)
          refine lv_iload_n hx hb dX12_taken_71 rfl (lv_at hl 0 rfl) ?_
          refine lv_if_ge (tgt := 78) hx hb dX12_taken_72 (by decide) (fun _ => ?_) (fun c9 => absurd (by decide) c9)
          refine lv_iload_n hx hb dX12_taken_78 rfl (lv_at hl 0 rfl) ?_
          refine lv_if_lt (tgt := 95) hx hb dX12_taken_79 (by decide) (fun c9 => absurd c9 (by decide)) (fun _ => ?_)
          refine lv_iload_n hx hb dX12_taken_82 rfl (lv_at hl 0 rfl) ?_
          refine lv_iload_n hx hb dX12_taken_83 rfl (lv_at hl 3 rfl) ?_
          refine lv_icmp_eq (tgt := 95) hx hb dX12_taken_84 (by decide) (fun c_84_5963 => ?_) (fun c_84_5963 => ?_)
          · refine lv_iload_n hx hb dX12_taken_95 rfl (lv_at hl 0 rfl) ?_
            refine lv_iload_n hx hb dX12_taken_96 rfl (lv_at hl 3 rfl) ?_
            refine lv_icmp_ne (tgt := 109) hx hb dX12_taken_97 (by decide) (fun c9 => absurd (c_84_5963) c9) (fun _ => ?_)
            refine lv_aload_n hx hb dX12_taken_100 rfl (lv_at hl 1 rfl) ?_
            refine gf_X12_75 hC rfl hK hP 0 rfl rfl dX12_taken_101 ?_
            refine lv_iload_n hx hb dX12_taken_104 rfl (lv_at hl 2 rfl) ?_
            refine ald hC hK hP 3 rfl (vp_in_nI (by omega) (by omega)) (k := jt) (nI_clamp (by omega)) (v := fnsf jt) rfl dX12_taken_105 ?_
            refine lv_goto (tgt := 111) hx hb dX12_taken_106 (by decide) ?_
            exact RP (v := fnsf jt) hC ((by first | rfl | (simp only [nI_clamp (n := jt) (by omega), ifc_t ekq, ifc_t hkq, ifc_t ek8, ifc_t hk8, ifc_t ek9, ifc_t hk9, ifc_t hN, ifc_t a5926, ifc_t a5928, ifc_f c_37_5929, ifc_t c_84_5963, ifc_t (q := Wi x2 0 6 ∨ Wi x2 10 14) (Or.inl a5928), a5931, ifc_f (q := (5 : Int32) < 0) (by decide), ifc_t (q := UNl (5 : Int32).toNatClampNeg x2) (show UNl 5 x2 from Or.inl (c_84_5963.symm))]; done) | (simp only [nI_clamp (n := jt) (by omega), ifc_t ekq, ifc_t hkq, ifc_t ek8, ifc_t hk8, ifc_t ek9, ifc_t hk9, ifc_t hN, ifc_t a5926, ifc_t a5928, ifc_f c_37_5929, ifc_t c_84_5963, ifc_t (q := Wi x2 0 6 ∨ Wi x2 10 14) (Or.inl a5928), a5931, ifc_f (q := (5 : Int32) < 0) (by decide), ifc_t (q := UNl (5 : Int32).toNatClampNeg x2) (show UNl 5 x2 from Or.inl (c_84_5963.symm))]; rfl))) rfl dX12_taken_111
          · refine lv_iload_n hx hb dX12_taken_87 rfl (lv_at hl 0 rfl) ?_
            refine pS hC hK hl (m_above5 l G) si_X12_348 rfl rfl (Nat.le_of_ble_eq_true rfl) ⟨Nat.le_of_ble_eq_true rfl, Nat.le_of_ble_eq_true rfl⟩ ⟨by first | exact Nat.le_of_ble_eq_true rfl | exact Nat.zero_le _, by first | exact Nat.le_of_ble_eq_true rfl | exact Nat.zero_le _⟩ dX12_taken_88 (fun r5964 hr5964 => ?_)
            obtain rfl := hr5964
            refine lv_istore_n (lv' := [(3, .int 4), (0, .ref h0), (1, .int (nI jt)), (2, .int x2)]) hx hb dX12_taken_91 rfl hl (by decide) rfl (fun ls hl => ?_)
            refine lv_goto (tgt := 78) hx hb dX12_taken_92 (by decide) ?_
            refine lv_iload_n hx hb dX12_taken_78 rfl (lv_at hl 0 rfl) ?_
            refine lv_if_lt (tgt := 95) hx hb dX12_taken_79 (by decide) (fun c9 => absurd c9 (by decide)) (fun _ => ?_)
            refine lv_iload_n hx hb dX12_taken_82 rfl (lv_at hl 0 rfl) ?_
            refine lv_iload_n hx hb dX12_taken_83 rfl (lv_at hl 3 rfl) ?_
            refine lv_icmp_eq (tgt := 95) hx hb dX12_taken_84 (by decide) (fun c_84_5966 => ?_) (fun c_84_5966 => ?_)
            · refine lv_iload_n hx hb dX12_taken_95 rfl (lv_at hl 0 rfl) ?_
              refine lv_iload_n hx hb dX12_taken_96 rfl (lv_at hl 3 rfl) ?_
              refine lv_icmp_ne (tgt := 109) hx hb dX12_taken_97 (by decide) (fun c9 => absurd (c_84_5966) c9) (fun _ => ?_)
              refine lv_aload_n hx hb dX12_taken_100 rfl (lv_at hl 1 rfl) ?_
              refine gf_X12_75 hC rfl hK hP 0 rfl rfl dX12_taken_101 ?_
              refine lv_iload_n hx hb dX12_taken_104 rfl (lv_at hl 2 rfl) ?_
              refine ald hC hK hP 3 rfl (vp_in_nI (by omega) (by omega)) (k := jt) (nI_clamp (by omega)) (v := fnsf jt) rfl dX12_taken_105 ?_
              refine lv_goto (tgt := 111) hx hb dX12_taken_106 (by decide) ?_
              exact RP (v := fnsf jt) hC ((by first | rfl | (simp only [nI_clamp (n := jt) (by omega), ifc_t ekq, ifc_t hkq, ifc_t ek8, ifc_t hk8, ifc_t ek9, ifc_t hk9, ifc_t hN, ifc_t a5926, ifc_t a5928, ifc_f c_37_5929, ifc_f c_84_5963, ifc_t c_84_5966, ifc_t (q := Wi x2 0 6 ∨ Wi x2 10 14) (Or.inl a5928), a5931, ifc_f (q := (5 : Int32) < 0) (by decide), ifc_t (q := UNl (5 : Int32).toNatClampNeg x2) (show UNl 5 x2 from Or.inr (Or.inl (c_84_5966.symm)))]; done) | (simp only [nI_clamp (n := jt) (by omega), ifc_t ekq, ifc_t hkq, ifc_t ek8, ifc_t hk8, ifc_t ek9, ifc_t hk9, ifc_t hN, ifc_t a5926, ifc_t a5928, ifc_f c_37_5929, ifc_f c_84_5963, ifc_t c_84_5966, ifc_t (q := Wi x2 0 6 ∨ Wi x2 10 14) (Or.inl a5928), a5931, ifc_f (q := (5 : Int32) < 0) (by decide), ifc_t (q := UNl (5 : Int32).toNatClampNeg x2) (show UNl 5 x2 from Or.inr (Or.inl (c_84_5966.symm)))]; rfl))) rfl dX12_taken_111
            · refine lv_iload_n hx hb dX12_taken_87 rfl (lv_at hl 0 rfl) ?_
              refine pS hC hK hl (m_above4 l G) si_X12_348 rfl rfl (Nat.le_of_ble_eq_true rfl) ⟨Nat.le_of_ble_eq_true rfl, Nat.le_of_ble_eq_true rfl⟩ ⟨by first | exact Nat.le_of_ble_eq_true rfl | exact Nat.zero_le _, by first | exact Nat.le_of_ble_eq_true rfl | exact Nat.zero_le _⟩ dX12_taken_88 (fun r5967 hr5967 => ?_)
              obtain rfl := hr5967
              refine lv_istore_n (lv' := [(3, .int 0), (0, .ref h0), (1, .int (nI jt)), (2, .int x2)]) hx hb dX12_taken_91 rfl hl (by decide) rfl (fun ls hl => ?_)
              refine lv_goto (tgt := 78) hx hb dX12_taken_92 (by decide) ?_
              refine lv_iload_n hx hb dX12_taken_78 rfl (lv_at hl 0 rfl) ?_
              refine lv_if_lt (tgt := 95) hx hb dX12_taken_79 (by decide) (fun c9 => absurd c9 (by decide)) (fun _ => ?_)
              refine lv_iload_n hx hb dX12_taken_82 rfl (lv_at hl 0 rfl) ?_
              refine lv_iload_n hx hb dX12_taken_83 rfl (lv_at hl 3 rfl) ?_
              refine lv_icmp_eq (tgt := 95) hx hb dX12_taken_84 (by decide) (fun c_84_5969 => ?_) (fun c_84_5969 => ?_)
              · refine lv_iload_n hx hb dX12_taken_95 rfl (lv_at hl 0 rfl) ?_
                refine lv_iload_n hx hb dX12_taken_96 rfl (lv_at hl 3 rfl) ?_
                refine lv_icmp_ne (tgt := 109) hx hb dX12_taken_97 (by decide) (fun c9 => absurd (c_84_5969) c9) (fun _ => ?_)
                refine lv_aload_n hx hb dX12_taken_100 rfl (lv_at hl 1 rfl) ?_
                refine gf_X12_75 hC rfl hK hP 0 rfl rfl dX12_taken_101 ?_
                refine lv_iload_n hx hb dX12_taken_104 rfl (lv_at hl 2 rfl) ?_
                refine ald hC hK hP 3 rfl (vp_in_nI (by omega) (by omega)) (k := jt) (nI_clamp (by omega)) (v := fnsf jt) rfl dX12_taken_105 ?_
                refine lv_goto (tgt := 111) hx hb dX12_taken_106 (by decide) ?_
                exact RP (v := fnsf jt) hC ((by first | rfl | (simp only [nI_clamp (n := jt) (by omega), ifc_t ekq, ifc_t hkq, ifc_t ek8, ifc_t hk8, ifc_t ek9, ifc_t hk9, ifc_t hN, ifc_t a5926, ifc_t a5928, ifc_f c_37_5929, ifc_f c_84_5963, ifc_f c_84_5966, ifc_t c_84_5969, ifc_t (q := Wi x2 0 6 ∨ Wi x2 10 14) (Or.inl a5928), a5931, ifc_f (q := (5 : Int32) < 0) (by decide), ifc_t (q := UNl (5 : Int32).toNatClampNeg x2) (show UNl 5 x2 from Or.inr (Or.inr (c_84_5969.symm)))]; done) | (simp only [nI_clamp (n := jt) (by omega), ifc_t ekq, ifc_t hkq, ifc_t ek8, ifc_t hk8, ifc_t ek9, ifc_t hk9, ifc_t hN, ifc_t a5926, ifc_t a5928, ifc_f c_37_5929, ifc_f c_84_5963, ifc_f c_84_5966, ifc_t c_84_5969, ifc_t (q := Wi x2 0 6 ∨ Wi x2 10 14) (Or.inl a5928), a5931, ifc_f (q := (5 : Int32) < 0) (by decide), ifc_t (q := UNl (5 : Int32).toNatClampNeg x2) (show UNl 5 x2 from Or.inr (Or.inr (c_84_5969.symm)))]; rfl))) rfl dX12_taken_111
              · refine lv_iload_n hx hb dX12_taken_87 rfl (lv_at hl 0 rfl) ?_
                refine pS hC hK hl (m_above0 l G) si_X12_348 rfl rfl (Nat.le_of_ble_eq_true rfl) ⟨Nat.le_of_ble_eq_true rfl, Nat.le_of_ble_eq_true rfl⟩ ⟨by first | exact Nat.le_of_ble_eq_true rfl | exact Nat.zero_le _, by first | exact Nat.le_of_ble_eq_true rfl | exact Nat.zero_le _⟩ dX12_taken_88 (fun r5970 hr5970 => ?_)
                obtain rfl := hr5970
                refine lv_istore_n (lv' := [(3, .int (-1)), (0, .ref h0), (1, .int (nI jt)), (2, .int x2)]) hx hb dX12_taken_91 rfl hl (by decide) rfl (fun ls hl => ?_)
                refine lv_goto (tgt := 78) hx hb dX12_taken_92 (by decide) ?_
                refine lv_iload_n hx hb dX12_taken_78 rfl (lv_at hl 0 rfl) ?_
                refine lv_if_lt (tgt := 95) hx hb dX12_taken_79 (by decide) (fun _ => ?_) (fun c9 => absurd (by decide) c9)
                refine lv_iload_n hx hb dX12_taken_95 rfl (lv_at hl 0 rfl) ?_
                refine lv_iload_n hx hb dX12_taken_96 rfl (lv_at hl 3 rfl) ?_
                refine lv_icmp_ne (tgt := 109) hx hb dX12_taken_97 (by decide) (fun c_97_5972 => ?_) (fun c_97_5972 => ?_)
                · refine lv_bipush (v := (-13)) hx hb dX12_taken_109 (by decide) ?_
                  exact RP (v := (-13)) hC ((by first | rfl | (simp only [nI_clamp (n := jt) (by omega), ifc_t ekq, ifc_t hkq, ifc_t ek8, ifc_t hk8, ifc_t ek9, ifc_t hk9, ifc_t hN, ifc_t a5926, ifc_t a5928, ifc_f c_37_5929, ifc_f c_84_5963, ifc_f c_84_5966, ifc_f c_84_5969, ifc_f c_97_5972, ifc_t (q := Wi x2 0 6 ∨ Wi x2 10 14) (Or.inl a5928), a5931, ifc_f (q := (5 : Int32) < 0) (by decide), ifc_f (q := UNl (5 : Int32).toNatClampNeg x2) (fun h9 => (show False from by have h7 : x2 = 5 ∨ x2 = 4 ∨ x2 = 0 := h9; rcases h7 with h8 | h8 | h8 <;> (first | exact c_84_5963 h8.symm | exact c_84_5966 h8.symm | exact c_84_5969 h8.symm)))]; done) | (simp only [nI_clamp (n := jt) (by omega), ifc_t ekq, ifc_t hkq, ifc_t ek8, ifc_t hk8, ifc_t ek9, ifc_t hk9, ifc_t hN, ifc_t a5926, ifc_t a5928, ifc_f c_37_5929, ifc_f c_84_5963, ifc_f c_84_5966, ifc_f c_84_5969, ifc_f c_97_5972, ifc_t (q := Wi x2 0 6 ∨ Wi x2 10 14) (Or.inl a5928), a5931, ifc_f (q := (5 : Int32) < 0) (by decide), ifc_f (q := UNl (5 : Int32).toNatClampNeg x2) (fun h9 => (show False from by have h7 : x2 = 5 ∨ x2 = 4 ∨ x2 = 0 := h9; rcases h7 with h8 | h8 | h8 <;> (first | exact c_84_5963 h8.symm | exact c_84_5966 h8.symm | exact c_84_5969 h8.symm)))]; rfl))) rfl dX12_taken_111
                · refine lv_aload_n hx hb dX12_taken_100 rfl (lv_at hl 1 rfl) ?_
                  refine gf_X12_75 hC rfl hK hP 0 rfl rfl dX12_taken_101 ?_
                  refine lv_iload_n hx hb dX12_taken_104 rfl (lv_at hl 2 rfl) ?_
                  refine ald hC hK hP 3 rfl (vp_in_nI (by omega) (by omega)) (k := jt) (nI_clamp (by omega)) (v := fnsf jt) rfl dX12_taken_105 ?_
                  refine lv_goto (tgt := 111) hx hb dX12_taken_106 (by decide) ?_
                  exact RP (v := fnsf jt) hC ((by first | rfl | (simp only [nI_clamp (n := jt) (by omega), ifc_t ekq, ifc_t hkq, ifc_t ek8, ifc_t hk8, ifc_t ek9, ifc_t hk9, ifc_t hN, ifc_t a5926, ifc_t a5928, ifc_f c_37_5929, ifc_f c_84_5963, ifc_f c_84_5966, ifc_f c_84_5969, ifc_t c_97_5972, ifc_t (q := Wi x2 0 6 ∨ Wi x2 10 14) (Or.inl a5928), a5931, ifc_f (q := (5 : Int32) < 0) (by decide), ifc_f (q := UNl (5 : Int32).toNatClampNeg x2) (fun h9 => (show False from by have h7 : x2 = 5 ∨ x2 = 4 ∨ x2 = 0 := h9; rcases h7 with h8 | h8 | h8 <;> (first | exact c_84_5963 h8.symm | exact c_84_5966 h8.symm | exact c_84_5969 h8.symm)))]; done) | (simp only [nI_clamp (n := jt) (by omega), ifc_t ekq, ifc_t hkq, ifc_t ek8, ifc_t hk8, ifc_t ek9, ifc_t hk9, ifc_t hN, ifc_t a5926, ifc_t a5928, ifc_f c_37_5929, ifc_f c_84_5963, ifc_f c_84_5966, ifc_f c_84_5969, ifc_t c_97_5972, ifc_t (q := Wi x2 0 6 ∨ Wi x2 10 14) (Or.inl a5928), a5931, ifc_f (q := (5 : Int32) < 0) (by decide), ifc_f (q := UNl (5 : Int32).toNatClampNeg x2) (fun h9 => (show False from by have h7 : x2 = 5 ∨ x2 = 4 ∨ x2 = 0 := h9; rcases h7 with h8 | h8 | h8 <;> (first | exact c_84_5963 h8.symm | exact c_84_5966 h8.symm | exact c_84_5969 h8.symm)))]; rfl))) rfl dX12_taken_111
        · refine lv_istore_n (lv' := [(3, .int 6), (0, .ref h0), (1, .int (nI jt)), (2, .int x2)]) hx hb dX12_taken_70 rfl hl (by decide) rfl (fun ls hl => ?_)
          refine lv_iload_n hx hb dX12_taken_71 rfl (lv_at hl 0 rfl) ?_
          refine lv_if_ge (tgt := 78) hx hb dX12_taken_72 (by decide) (fun _ => ?_) (fun c9 => absurd (by decide) c9)
          refine lv_iload_n hx hb dX12_taken_78 rfl (lv_at hl 0 rfl) ?_
          refine lv_if_lt (tgt := 95) hx hb dX12_taken_79 (by decide) (fun c9 => absurd c9 (by decide)) (fun _ => ?_)
          refine lv_iload_n hx hb dX12_taken_82 rfl (lv_at hl 0 rfl) ?_
          refine lv_iload_n hx hb dX12_taken_83 rfl (lv_at hl 3 rfl) ?_
          refine lv_icmp_eq (tgt := 95) hx hb dX12_taken_84 (by decide) (fun c_84_5973 => ?_) (fun c_84_5973 => ?_)
          · refine lv_iload_n hx hb dX12_taken_95 rfl (lv_at hl 0 rfl) ?_
            refine lv_iload_n hx hb dX12_taken_96 rfl (lv_at hl 3 rfl) ?_
            refine lv_icmp_ne (tgt := 109) hx hb dX12_taken_97 (by decide) (fun c9 => absurd (c_84_5973) c9) (fun _ => ?_)
            refine lv_aload_n hx hb dX12_taken_100 rfl (lv_at hl 1 rfl) ?_
            refine gf_X12_75 hC rfl hK hP 0 rfl rfl dX12_taken_101 ?_
            refine lv_iload_n hx hb dX12_taken_104 rfl (lv_at hl 2 rfl) ?_
            refine ald hC hK hP 3 rfl (vp_in_nI (by omega) (by omega)) (k := jt) (nI_clamp (by omega)) (v := fnsf jt) rfl dX12_taken_105 ?_
            refine lv_goto (tgt := 111) hx hb dX12_taken_106 (by decide) ?_
            exact RP (v := fnsf jt) hC ((by first | rfl | (simp only [nI_clamp (n := jt) (by omega), ifc_t ekq, ifc_t hkq, ifc_t ek8, ifc_t hk8, ifc_t ek9, ifc_t hk9, ifc_t hN, ifc_t a5926, ifc_t a5928, ifc_f c_37_5929, ifc_t c_84_5973, ifc_t (q := Wi x2 0 6 ∨ Wi x2 10 14) (Or.inl a5928), a5931, ifc_f (q := (6 : Int32) < 0) (by decide), ifc_t (q := UNl (6 : Int32).toNatClampNeg x2) (show UNl 6 x2 from Or.inl (c_84_5973.symm))]; done) | (simp only [nI_clamp (n := jt) (by omega), ifc_t ekq, ifc_t hkq, ifc_t ek8, ifc_t hk8, ifc_t ek9, ifc_t hk9, ifc_t hN, ifc_t a5926, ifc_t a5928, ifc_f c_37_5929, ifc_t c_84_5973, ifc_t (q := Wi x2 0 6 ∨ Wi x2 10 14) (Or.inl a5928), a5931, ifc_f (q := (6 : Int32) < 0) (by decide), ifc_t (q := UNl (6 : Int32).toNatClampNeg x2) (show UNl 6 x2 from Or.inl (c_84_5973.symm))]; rfl))) rfl dX12_taken_111
          · refine lv_iload_n hx hb dX12_taken_87 rfl (lv_at hl 0 rfl) ?_
            refine pS hC hK hl (m_above6 l G) si_X12_348 rfl rfl (Nat.le_of_ble_eq_true rfl) ⟨Nat.le_of_ble_eq_true rfl, Nat.le_of_ble_eq_true rfl⟩ ⟨by first | exact Nat.le_of_ble_eq_true rfl | exact Nat.zero_le _, by first | exact Nat.le_of_ble_eq_true rfl | exact Nat.zero_le _⟩ dX12_taken_88 (fun r5974 hr5974 => ?_)
            obtain rfl := hr5974
            refine lv_istore_n (lv' := [(3, .int 0), (0, .ref h0), (1, .int (nI jt)), (2, .int x2)]) hx hb dX12_taken_91 rfl hl (by decide) rfl (fun ls hl => ?_)
            refine lv_goto (tgt := 78) hx hb dX12_taken_92 (by decide) ?_
            refine lv_iload_n hx hb dX12_taken_78 rfl (lv_at hl 0 rfl) ?_
            refine lv_if_lt (tgt := 95) hx hb dX12_taken_79 (by decide) (fun c9 => absurd c9 (by decide)) (fun _ => ?_)
            refine lv_iload_n hx hb dX12_taken_82 rfl (lv_at hl 0 rfl) ?_
            refine lv_iload_n hx hb dX12_taken_83 rfl (lv_at hl 3 rfl) ?_
            refine lv_icmp_eq (tgt := 95) hx hb dX12_taken_84 (by decide) (fun c_84_5976 => ?_) (fun c_84_5976 => ?_)
            · refine lv_iload_n hx hb dX12_taken_95 rfl (lv_at hl 0 rfl) ?_
              refine lv_iload_n hx hb dX12_taken_96 rfl (lv_at hl 3 rfl) ?_
              refine lv_icmp_ne (tgt := 109) hx hb dX12_taken_97 (by decide) (fun c9 => absurd (c_84_5976) c9) (fun _ => ?_)
              refine lv_aload_n hx hb dX12_taken_100 rfl (lv_at hl 1 rfl) ?_
              refine gf_X12_75 hC rfl hK hP 0 rfl rfl dX12_taken_101 ?_
              refine lv_iload_n hx hb dX12_taken_104 rfl (lv_at hl 2 rfl) ?_
              refine ald hC hK hP 3 rfl (vp_in_nI (by omega) (by omega)) (k := jt) (nI_clamp (by omega)) (v := fnsf jt) rfl dX12_taken_105 ?_
              refine lv_goto (tgt := 111) hx hb dX12_taken_106 (by decide) ?_
              exact RP (v := fnsf jt) hC ((by first | rfl | (simp only [nI_clamp (n := jt) (by omega), ifc_t ekq, ifc_t hkq, ifc_t ek8, ifc_t hk8, ifc_t ek9, ifc_t hk9, ifc_t hN, ifc_t a5926, ifc_t a5928, ifc_f c_37_5929, ifc_f c_84_5973, ifc_t c_84_5976, ifc_t (q := Wi x2 0 6 ∨ Wi x2 10 14) (Or.inl a5928), a5931, ifc_f (q := (6 : Int32) < 0) (by decide), ifc_t (q := UNl (6 : Int32).toNatClampNeg x2) (show UNl 6 x2 from Or.inr (c_84_5976.symm))]; done) | (simp only [nI_clamp (n := jt) (by omega), ifc_t ekq, ifc_t hkq, ifc_t ek8, ifc_t hk8, ifc_t ek9, ifc_t hk9, ifc_t hN, ifc_t a5926, ifc_t a5928, ifc_f c_37_5929, ifc_f c_84_5973, ifc_t c_84_5976, ifc_t (q := Wi x2 0 6 ∨ Wi x2 10 14) (Or.inl a5928), a5931, ifc_f (q := (6 : Int32) < 0) (by decide), ifc_t (q := UNl (6 : Int32).toNatClampNeg x2) (show UNl 6 x2 from Or.inr (c_84_5976.symm))]; rfl))) rfl dX12_taken_111
            · refine lv_iload_n hx hb dX12_taken_87 rfl (lv_at hl 0 rfl) ?_
              refine pS hC hK hl (m_above0 l G) si_X12_348 rfl rfl (Nat.le_of_ble_eq_true rfl) ⟨Nat.le_of_ble_eq_true rfl, Nat.le_of_ble_eq_true rfl⟩ ⟨by first | exact Nat.le_of_ble_eq_true rfl | exact Nat.zero_le _, by first | exact Nat.le_of_ble_eq_true rfl | exact Nat.zero_le _⟩ dX12_taken_88 (fun r5977 hr5977 => ?_)
              obtain rfl := hr5977
              refine lv_istore_n (lv' := [(3, .int (-1)), (0, .ref h0), (1, .int (nI jt)), (2, .int x2)]) hx hb dX12_taken_91 rfl hl (by decide) rfl (fun ls hl => ?_)
              refine lv_goto (tgt := 78) hx hb dX12_taken_92 (by decide) ?_
              refine lv_iload_n hx hb dX12_taken_78 rfl (lv_at hl 0 rfl) ?_
              refine lv_if_lt (tgt := 95) hx hb dX12_taken_79 (by decide) (fun _ => ?_) (fun c9 => absurd (by decide) c9)
              refine lv_iload_n hx hb dX12_taken_95 rfl (lv_at hl 0 rfl) ?_
              refine lv_iload_n hx hb dX12_taken_96 rfl (lv_at hl 3 rfl) ?_
              refine lv_icmp_ne (tgt := 109) hx hb dX12_taken_97 (by decide) (fun c_97_5979 => ?_) (fun c_97_5979 => ?_)
              · refine lv_bipush (v := (-13)) hx hb dX12_taken_109 (by decide) ?_
                exact RP (v := (-13)) hC ((by first | rfl | (simp only [nI_clamp (n := jt) (by omega), ifc_t ekq, ifc_t hkq, ifc_t ek8, ifc_t hk8, ifc_t ek9, ifc_t hk9, ifc_t hN, ifc_t a5926, ifc_t a5928, ifc_f c_37_5929, ifc_f c_84_5973, ifc_f c_84_5976, ifc_f c_97_5979, ifc_t (q := Wi x2 0 6 ∨ Wi x2 10 14) (Or.inl a5928), a5931, ifc_f (q := (6 : Int32) < 0) (by decide), ifc_f (q := UNl (6 : Int32).toNatClampNeg x2) (fun h9 => (show False from by have h7 : x2 = 6 ∨ x2 = 0 := h9; rcases h7 with h8 | h8 <;> (first | exact c_84_5973 h8.symm | exact c_84_5976 h8.symm)))]; done) | (simp only [nI_clamp (n := jt) (by omega), ifc_t ekq, ifc_t hkq, ifc_t ek8, ifc_t hk8, ifc_t ek9, ifc_t hk9, ifc_t hN, ifc_t a5926, ifc_t a5928, ifc_f c_37_5929, ifc_f c_84_5973, ifc_f c_84_5976, ifc_f c_97_5979, ifc_t (q := Wi x2 0 6 ∨ Wi x2 10 14) (Or.inl a5928), a5931, ifc_f (q := (6 : Int32) < 0) (by decide), ifc_f (q := UNl (6 : Int32).toNatClampNeg x2) (fun h9 => (show False from by have h7 : x2 = 6 ∨ x2 = 0 := h9; rcases h7 with h8 | h8 <;> (first | exact c_84_5973 h8.symm | exact c_84_5976 h8.symm)))]; rfl))) rfl dX12_taken_111
              · refine lv_aload_n hx hb dX12_taken_100 rfl (lv_at hl 1 rfl) ?_
                refine gf_X12_75 hC rfl hK hP 0 rfl rfl dX12_taken_101 ?_
                refine lv_iload_n hx hb dX12_taken_104 rfl (lv_at hl 2 rfl) ?_
                refine ald hC hK hP 3 rfl (vp_in_nI (by omega) (by omega)) (k := jt) (nI_clamp (by omega)) (v := fnsf jt) rfl dX12_taken_105 ?_
                refine lv_goto (tgt := 111) hx hb dX12_taken_106 (by decide) ?_
                exact RP (v := fnsf jt) hC ((by first | rfl | (simp only [nI_clamp (n := jt) (by omega), ifc_t ekq, ifc_t hkq, ifc_t ek8, ifc_t hk8, ifc_t ek9, ifc_t hk9, ifc_t hN, ifc_t a5926, ifc_t a5928, ifc_f c_37_5929, ifc_f c_84_5973, ifc_f c_84_5976, ifc_t c_97_5979, ifc_t (q := Wi x2 0 6 ∨ Wi x2 10 14) (Or.inl a5928), a5931, ifc_f (q := (6 : Int32) < 0) (by decide), ifc_f (q := UNl (6 : Int32).toNatClampNeg x2) (fun h9 => (show False from by have h7 : x2 = 6 ∨ x2 = 0 := h9; rcases h7 with h8 | h8 <;> (first | exact c_84_5973 h8.symm | exact c_84_5976 h8.symm)))]; done) | (simp only [nI_clamp (n := jt) (by omega), ifc_t ekq, ifc_t hkq, ifc_t ek8, ifc_t hk8, ifc_t ek9, ifc_t hk9, ifc_t hN, ifc_t a5926, ifc_t a5928, ifc_f c_37_5929, ifc_f c_84_5973, ifc_f c_84_5976, ifc_t c_97_5979, ifc_t (q := Wi x2 0 6 ∨ Wi x2 10 14) (Or.inl a5928), a5931, ifc_f (q := (6 : Int32) < 0) (by decide), ifc_f (q := UNl (6 : Int32).toNatClampNeg x2) (fun h9 => (show False from by have h7 : x2 = 6 ∨ x2 = 0 := h9; rcases h7 with h8 | h8 <;> (first | exact c_84_5973 h8.symm | exact c_84_5976 h8.symm)))]; rfl))) rfl dX12_taken_111
      · refine lv_iload_n hx hb dX12_taken_40 rfl (lv_at hl 2 rfl) ?_
        refine lv_bipush (v := 10) hx hb dX12_taken_41 (by decide) ?_
        refine lv_isub hx hb dX12_taken_43 ?_
        refine lv_aload_n hx hb dX12_taken_44 rfl (lv_at hl 0 rfl) ?_
        refine gf_X12_75 hC rfl hK hP 0 rfl rfl dX12_taken_45 ?_
        refine lv_iload_n hx hb dX12_taken_48 rfl (lv_at hl 1 rfl) ?_
        refine ald hC hK hP 3 rfl (vp_in_nI (by omega) (by omega)) (k := jt) (nI_clamp (by omega)) (v := fnsf jt) rfl dX12_taken_49 ?_
        refine lv_icmp_ne (tgt := 62) hx hb dX12_taken_50 (by decide) (fun c_50_5980 => ?_) (fun c_50_5980 => ?_)
        · refine lv_bipush (v := (-13)) hx hb dX12_taken_62 (by decide) ?_
          exact RP (v := (-13)) hC ((by first | rfl | (simp only [nI_clamp (n := jt) (by omega), ifc_t ekq, ifc_t hkq, ifc_t ek8, ifc_t hk8, ifc_t ek9, ifc_t hk9, ifc_t hN, ifc_t a5926, ifc_t a5928, ifc_t c_37_5929, ifc_f c_50_5980, ifc_t (q := Wi x2 0 6 ∨ Wi x2 10 14) (Or.inl a5928)]; done) | (simp only [nI_clamp (n := jt) (by omega), ifc_t ekq, ifc_t hkq, ifc_t ek8, ifc_t hk8, ifc_t ek9, ifc_t hk9, ifc_t hN, ifc_t a5926, ifc_t a5928, ifc_t c_37_5929, ifc_f c_50_5980, ifc_t (q := Wi x2 0 6 ∨ Wi x2 10 14) (Or.inl a5928)]; rfl))) rfl dX12_taken_64
        · refine lv_aload_n hx hb dX12_taken_53 rfl (lv_at hl 0 rfl) ?_
          refine gf_X12_78 hC rfl hK hP 0 rfl rfl dX12_taken_54 ?_
          refine lv_iload_n hx hb dX12_taken_57 rfl (lv_at hl 1 rfl) ?_
          refine ald hC hK hP 4 rfl (vp_in_nI (by omega) (by omega)) (k := jt) (nI_clamp (by omega)) (v := fnss jt) rfl dX12_taken_58 ?_
          refine lv_goto (tgt := 64) hx hb dX12_taken_59 (by decide) ?_
          exact RP (v := fnss jt) hC ((by first | rfl | (simp only [nI_clamp (n := jt) (by omega), ifc_t ekq, ifc_t hkq, ifc_t ek8, ifc_t hk8, ifc_t ek9, ifc_t hk9, ifc_t hN, ifc_t a5926, ifc_t a5928, ifc_t c_37_5929, ifc_t c_50_5980, ifc_t (q := Wi x2 0 6 ∨ Wi x2 10 14) (Or.inl a5928)]; done) | (simp only [nI_clamp (n := jt) (by omega), ifc_t ekq, ifc_t hkq, ifc_t ek8, ifc_t hk8, ifc_t ek9, ifc_t hk9, ifc_t hN, ifc_t a5926, ifc_t a5928, ifc_t c_37_5929, ifc_t c_50_5980, ifc_t (q := Wi x2 0 6 ∨ Wi x2 10 14) (Or.inl a5928)]; rfl))) rfl dX12_taken_64
    · refine lv_if_ne (tgt := 30) hx hb dX12_taken_14 (by decide) (fun c9 => absurd (by decide) c9) (fun _ => ?_)
      refine lv_iload_n hx hb dX12_taken_17 rfl (lv_at hl 2 rfl) ?_
      refine lv_bipush (v := 10) hx hb dX12_taken_18 (by decide) ?_
      refine lv_bipush (v := 14) hx hb dX12_taken_20 (by decide) ?_
      refine pS hC hK hl (m_within l G x2 10 14) si_X12_84 rfl rfl (Nat.le_of_ble_eq_true rfl) ⟨Nat.le_of_ble_eq_true rfl, Nat.le_of_ble_eq_true rfl⟩ ⟨by first | exact Nat.le_of_ble_eq_true rfl | exact Nat.zero_le _, by first | exact Nat.le_of_ble_eq_true rfl | exact Nat.zero_le _⟩ dX12_taken_22 (fun r5981 hr5981 => ?_)
      rcases hr5981 with ⟨rfl, a5982⟩ | ⟨rfl, a5982⟩
      · refine lv_if_ne (tgt := 30) hx hb dX12_taken_25 (by decide) (fun _ => ?_) (fun c9 => absurd c9 (by decide))
        obtain ⟨jt, hjt, rfl⟩ := Wi_nat (N := 3) (by decide) a5926
        refine lv_aload_n hx hb dX12_taken_30 rfl (lv_at hl 0 rfl) ?_
        refine gf_X12_72 hC rfl hK hP 0 rfl rfl dX12_taken_31 ?_
        refine lv_iload_n hx hb dX12_taken_34 rfl (lv_at hl 1 rfl) ?_
        refine ald hC hK hP 2 rfl (vp_in_nI (by omega) (by omega)) (k := jt) (nI_clamp (by omega)) (v := fnsh jt) rfl dX12_taken_35 ?_
        refine lv_iconst (v := 4) hx hb dX12_taken_36 (by decide) ?_
        refine lv_icmp_ne (tgt := 65) hx hb dX12_taken_37 (by decide) (fun c_37_5983 => ?_) (fun c_37_5983 => ?_)
        · refine lv_aload_n hx hb dX12_taken_65 rfl (lv_at hl 0 rfl) ?_
          refine lv_iload_n hx hb dX12_taken_66 rfl (lv_at hl 1 rfl) ?_
          refine pV hC hK hl hP hD (m_kindOnX l G kq k8 k9 h0 jt nw nk mhasKept nt mtaped nr mrowMany mroundOf mroundFrom mouts nm mfromHour mtoHour ns mfrom mto msort misFault mdeep mcoded mlines nl nc nF np ntr nb mbestCost nso nsi nit nsh nsf nss nrc mtraced mdealer mnumber mwhose msize misParted fnw fnsh fnsf (by omega) (ekq) (by omega) (ek8) (by omega) (ek9) (by omega) (hN)) si_X12_345 [0, 1, 2, 3] rfl rfl (by decide) rfl rfl rfl rfl rfl (Nat.le_of_ble_eq_true rfl) ⟨Nat.le_of_ble_eq_true rfl, Nat.le_of_ble_eq_true rfl⟩ ⟨by first | exact Nat.le_of_ble_eq_true rfl | exact Nat.zero_le _, by first | exact Nat.le_of_ble_eq_true rfl | exact Nat.zero_le _⟩ dX12_taken_67 (fun r5984 hr5984 => ?_)
          rcases hr5984 with ⟨rfl, a5985⟩ | ⟨rfl, a5985⟩ | ⟨rfl, a5985⟩ | ⟨rfl, a5985⟩ | ⟨rfl, a5985⟩ | ⟨rfl, a5985⟩ | ⟨rfl, a5985⟩
          · refine lv_istore_n (lv' := [(3, .int (-1)), (0, .ref h0), (1, .int (nI jt)), (2, .int x2)]) hx hb dX12_taken_70 rfl hl (by decide) rfl (fun ls hl => ?_)
            refine lv_iload_n hx hb dX12_taken_71 rfl (lv_at hl 0 rfl) ?_
            refine lv_if_ge (tgt := 78) hx hb dX12_taken_72 (by decide) (fun c9 => absurd c9 (by decide)) (fun _ => ?_)
            refine lv_bipush (v := (-11)) hx hb dX12_taken_75 (by decide) ?_
            exact RP (v := (-11)) hC ((by first | rfl | (simp only [nI_clamp (n := jt) (by omega), ifc_t ekq, ifc_t hkq, ifc_t ek8, ifc_t hk8, ifc_t ek9, ifc_t hk9, ifc_t hN, ifc_t a5926, ifc_f a5928, ifc_t a5982, ifc_f c_37_5983, ifc_t (q := Wi x2 0 6 ∨ Wi x2 10 14) (Or.inr a5982), a5985, ifc_t (q := (-1 : Int32) < 0) (by decide)]; done) | (simp only [nI_clamp (n := jt) (by omega), ifc_t ekq, ifc_t hkq, ifc_t ek8, ifc_t hk8, ifc_t ek9, ifc_t hk9, ifc_t hN, ifc_t a5926, ifc_f a5928, ifc_t a5982, ifc_f c_37_5983, ifc_t (q := Wi x2 0 6 ∨ Wi x2 10 14) (Or.inr a5982), a5985, ifc_t (q := (-1 : Int32) < 0) (by decide)]; rfl))) rfl dX12_taken_77
          · refine lv_istore_n (lv' := [(3, .int 1), (0, .ref h0), (1, .int (nI jt)), (2, .int x2)]) hx hb dX12_taken_70 rfl hl (by decide) rfl (fun ls hl => ?_)
            refine lv_iload_n hx hb dX12_taken_71 rfl (lv_at hl 0 rfl) ?_
            refine lv_if_ge (tgt := 78) hx hb dX12_taken_72 (by decide) (fun _ => ?_) (fun c9 => absurd (by decide) c9)
            refine lv_iload_n hx hb dX12_taken_78 rfl (lv_at hl 0 rfl) ?_
            refine lv_if_lt (tgt := 95) hx hb dX12_taken_79 (by decide) (fun c9 => absurd c9 (by decide)) (fun _ => ?_)
            refine lv_iload_n hx hb dX12_taken_82 rfl (lv_at hl 0 rfl) ?_
            refine lv_iload_n hx hb dX12_taken_83 rfl (lv_at hl 3 rfl) ?_
            refine lv_icmp_eq (tgt := 95) hx hb dX12_taken_84 (by decide) (fun c_84_5986 => ?_) (fun c_84_5986 => ?_)
            · refine lv_iload_n hx hb dX12_taken_95 rfl (lv_at hl 0 rfl) ?_
              refine lv_iload_n hx hb dX12_taken_96 rfl (lv_at hl 3 rfl) ?_
              refine lv_icmp_ne (tgt := 109) hx hb dX12_taken_97 (by decide) (fun c9 => absurd (c_84_5986) c9) (fun _ => ?_)
              refine lv_aload_n hx hb dX12_taken_100 rfl (lv_at hl 1 rfl) ?_
              refine gf_X12_75 hC rfl hK hP 0 rfl rfl dX12_taken_101 ?_
              refine lv_iload_n hx hb dX12_taken_104 rfl (lv_at hl 2 rfl) ?_
              refine ald hC hK hP 3 rfl (vp_in_nI (by omega) (by omega)) (k := jt) (nI_clamp (by omega)) (v := fnsf jt) rfl dX12_taken_105 ?_
              refine lv_goto (tgt := 111) hx hb dX12_taken_106 (by decide) ?_
              exact RP (v := fnsf jt) hC ((by first | rfl | (simp only [nI_clamp (n := jt) (by omega), ifc_t ekq, ifc_t hkq, ifc_t ek8, ifc_t hk8, ifc_t ek9, ifc_t hk9, ifc_t hN, ifc_t a5926, ifc_f a5928, ifc_t a5982, ifc_f c_37_5983, ifc_t c_84_5986, ifc_t (q := Wi x2 0 6 ∨ Wi x2 10 14) (Or.inr a5982), a5985, ifc_f (q := (1 : Int32) < 0) (by decide), ifc_t (q := UNl (1 : Int32).toNatClampNeg x2) (show UNl 1 x2 from Or.inl (c_84_5986.symm))]; done) | (simp only [nI_clamp (n := jt) (by omega), ifc_t ekq, ifc_t hkq, ifc_t ek8, ifc_t hk8, ifc_t ek9, ifc_t hk9, ifc_t hN, ifc_t a5926, ifc_f a5928, ifc_t a5982, ifc_f c_37_5983, ifc_t c_84_5986, ifc_t (q := Wi x2 0 6 ∨ Wi x2 10 14) (Or.inr a5982), a5985, ifc_f (q := (1 : Int32) < 0) (by decide), ifc_t (q := UNl (1 : Int32).toNatClampNeg x2) (show UNl 1 x2 from Or.inl (c_84_5986.symm))]; rfl))) rfl dX12_taken_111
            · refine lv_iload_n hx hb dX12_taken_87 rfl (lv_at hl 0 rfl) ?_
              refine pS hC hK hl (m_above1 l G) si_X12_348 rfl rfl (Nat.le_of_ble_eq_true rfl) ⟨Nat.le_of_ble_eq_true rfl, Nat.le_of_ble_eq_true rfl⟩ ⟨by first | exact Nat.le_of_ble_eq_true rfl | exact Nat.zero_le _, by first | exact Nat.le_of_ble_eq_true rfl | exact Nat.zero_le _⟩ dX12_taken_88 (fun r5987 hr5987 => ?_)
              obtain rfl := hr5987
              refine lv_istore_n (lv' := [(3, .int 0), (0, .ref h0), (1, .int (nI jt)), (2, .int x2)]) hx hb dX12_taken_91 rfl hl (by decide) rfl (fun ls hl => ?_)
              refine lv_goto (tgt := 78) hx hb dX12_taken_92 (by decide) ?_
              refine lv_iload_n hx hb dX12_taken_78 rfl (lv_at hl 0 rfl) ?_
              refine lv_if_lt (tgt := 95) hx hb dX12_taken_79 (by decide) (fun c9 => absurd c9 (by decide)) (fun _ => ?_)
              refine lv_iload_n hx hb dX12_taken_82 rfl (lv_at hl 0 rfl) ?_
              refine lv_iload_n hx hb dX12_taken_83 rfl (lv_at hl 3 rfl) ?_
              refine lv_icmp_eq (tgt := 95) hx hb dX12_taken_84 (by decide) (fun c_84_5989 => ?_) (fun c_84_5989 => ?_)
              · refine lv_iload_n hx hb dX12_taken_95 rfl (lv_at hl 0 rfl) ?_
                refine lv_iload_n hx hb dX12_taken_96 rfl (lv_at hl 3 rfl) ?_
                refine lv_icmp_ne (tgt := 109) hx hb dX12_taken_97 (by decide) (fun c9 => absurd (c_84_5989) c9) (fun _ => ?_)
                refine lv_aload_n hx hb dX12_taken_100 rfl (lv_at hl 1 rfl) ?_
                refine gf_X12_75 hC rfl hK hP 0 rfl rfl dX12_taken_101 ?_
                refine lv_iload_n hx hb dX12_taken_104 rfl (lv_at hl 2 rfl) ?_
                refine ald hC hK hP 3 rfl (vp_in_nI (by omega) (by omega)) (k := jt) (nI_clamp (by omega)) (v := fnsf jt) rfl dX12_taken_105 ?_
                refine lv_goto (tgt := 111) hx hb dX12_taken_106 (by decide) ?_
                exact RP (v := fnsf jt) hC ((by first | rfl | (simp only [nI_clamp (n := jt) (by omega), ifc_t ekq, ifc_t hkq, ifc_t ek8, ifc_t hk8, ifc_t ek9, ifc_t hk9, ifc_t hN, ifc_t a5926, ifc_f a5928, ifc_t a5982, ifc_f c_37_5983, ifc_f c_84_5986, ifc_t c_84_5989, ifc_t (q := Wi x2 0 6 ∨ Wi x2 10 14) (Or.inr a5982), a5985, ifc_f (q := (1 : Int32) < 0) (by decide), ifc_t (q := UNl (1 : Int32).toNatClampNeg x2) (show UNl 1 x2 from Or.inr (c_84_5989.symm))]; done) | (simp only [nI_clamp (n := jt) (by omega), ifc_t ekq, ifc_t hkq, ifc_t ek8, ifc_t hk8, ifc_t ek9, ifc_t hk9, ifc_t hN, ifc_t a5926, ifc_f a5928, ifc_t a5982, ifc_f c_37_5983, ifc_f c_84_5986, ifc_t c_84_5989, ifc_t (q := Wi x2 0 6 ∨ Wi x2 10 14) (Or.inr a5982), a5985, ifc_f (q := (1 : Int32) < 0) (by decide), ifc_t (q := UNl (1 : Int32).toNatClampNeg x2) (show UNl 1 x2 from Or.inr (c_84_5989.symm))]; rfl))) rfl dX12_taken_111
              · refine lv_iload_n hx hb dX12_taken_87 rfl (lv_at hl 0 rfl) ?_
                refine pS hC hK hl (m_above0 l G) si_X12_348 rfl rfl (Nat.le_of_ble_eq_true rfl) ⟨Nat.le_of_ble_eq_true rfl, Nat.le_of_ble_eq_true rfl⟩ ⟨by first | exact Nat.le_of_ble_eq_true rfl | exact Nat.zero_le _, by first | exact Nat.le_of_ble_eq_true rfl | exact Nat.zero_le _⟩ dX12_taken_88 (fun r5990 hr5990 => ?_)
                obtain rfl := hr5990
                refine lv_istore_n (lv' := [(3, .int (-1)), (0, .ref h0), (1, .int (nI jt)), (2, .int x2)]) hx hb dX12_taken_91 rfl hl (by decide) rfl (fun ls hl => ?_)
                refine lv_goto (tgt := 78) hx hb dX12_taken_92 (by decide) ?_
                refine lv_iload_n hx hb dX12_taken_78 rfl (lv_at hl 0 rfl) ?_
                refine lv_if_lt (tgt := 95) hx hb dX12_taken_79 (by decide) (fun _ => ?_) (fun c9 => absurd (by decide) c9)
                refine lv_iload_n hx hb dX12_taken_95 rfl (lv_at hl 0 rfl) ?_
                refine lv_iload_n hx hb dX12_taken_96 rfl (lv_at hl 3 rfl) ?_
                refine lv_icmp_ne (tgt := 109) hx hb dX12_taken_97 (by decide) (fun c_97_5992 => ?_) (fun c_97_5992 => ?_)
                · refine lv_bipush (v := (-13)) hx hb dX12_taken_109 (by decide) ?_
                  exact RP (v := (-13)) hC ((by first | rfl | (simp only [nI_clamp (n := jt) (by omega), ifc_t ekq, ifc_t hkq, ifc_t ek8, ifc_t hk8, ifc_t ek9, ifc_t hk9, ifc_t hN, ifc_t a5926, ifc_f a5928, ifc_t a5982, ifc_f c_37_5983, ifc_f c_84_5986, ifc_f c_84_5989, ifc_f c_97_5992, ifc_t (q := Wi x2 0 6 ∨ Wi x2 10 14) (Or.inr a5982), a5985, ifc_f (q := (1 : Int32) < 0) (by decide), ifc_f (q := UNl (1 : Int32).toNatClampNeg x2) (fun h9 => (show False from by have h7 : x2 = 1 ∨ x2 = 0 := h9; rcases h7 with h8 | h8 <;> (first | exact c_84_5986 h8.symm | exact c_84_5989 h8.symm)))]; done) | (simp only [nI_clamp (n := jt) (by omega), ifc_t ekq, ifc_t hkq, ifc_t ek8, ifc_t hk8, ifc_t ek9, ifc_t hk9, ifc_t hN, ifc_t a5926, ifc_f a5928, ifc_t a5982, ifc_f c_37_5983, ifc_f c_84_5986, ifc_f c_84_5989, ifc_f c_97_5992, ifc_t (q := Wi x2 0 6 ∨ Wi x2 10 14) (Or.inr a5982), a5985, ifc_f (q := (1 : Int32) < 0) (by decide), ifc_f (q := UNl (1 : Int32).toNatClampNeg x2) (fun h9 => (show False from by have h7 : x2 = 1 ∨ x2 = 0 := h9; rcases h7 with h8 | h8 <;> (first | exact c_84_5986 h8.symm | exact c_84_5989 h8.symm)))]; rfl))) rfl dX12_taken_111
                · refine lv_aload_n hx hb dX12_taken_100 rfl (lv_at hl 1 rfl) ?_
                  refine gf_X12_75 hC rfl hK hP 0 rfl rfl dX12_taken_101 ?_
                  refine lv_iload_n hx hb dX12_taken_104 rfl (lv_at hl 2 rfl) ?_
                  refine ald hC hK hP 3 rfl (vp_in_nI (by omega) (by omega)) (k := jt) (nI_clamp (by omega)) (v := fnsf jt) rfl dX12_taken_105 ?_
                  refine lv_goto (tgt := 111) hx hb dX12_taken_106 (by decide) ?_
                  exact RP (v := fnsf jt) hC ((by first | rfl | (simp only [nI_clamp (n := jt) (by omega), ifc_t ekq, ifc_t hkq, ifc_t ek8, ifc_t hk8, ifc_t ek9, ifc_t hk9, ifc_t hN, ifc_t a5926, ifc_f a5928, ifc_t a5982, ifc_f c_37_5983, ifc_f c_84_5986, ifc_f c_84_5989, ifc_t c_97_5992, ifc_t (q := Wi x2 0 6 ∨ Wi x2 10 14) (Or.inr a5982), a5985, ifc_f (q := (1 : Int32) < 0) (by decide), ifc_f (q := UNl (1 : Int32).toNatClampNeg x2) (fun h9 => (show False from by have h7 : x2 = 1 ∨ x2 = 0 := h9; rcases h7 with h8 | h8 <;> (first | exact c_84_5986 h8.symm | exact c_84_5989 h8.symm)))]; done) | (simp only [nI_clamp (n := jt) (by omega), ifc_t ekq, ifc_t hkq, ifc_t ek8, ifc_t hk8, ifc_t ek9, ifc_t hk9, ifc_t hN, ifc_t a5926, ifc_f a5928, ifc_t a5982, ifc_f c_37_5983, ifc_f c_84_5986, ifc_f c_84_5989, ifc_t c_97_5992, ifc_t (q := Wi x2 0 6 ∨ Wi x2 10 14) (Or.inr a5982), a5985, ifc_f (q := (1 : Int32) < 0) (by decide), ifc_f (q := UNl (1 : Int32).toNatClampNeg x2) (fun h9 => (show False from by have h7 : x2 = 1 ∨ x2 = 0 := h9; rcases h7 with h8 | h8 <;> (first | exact c_84_5986 h8.symm | exact c_84_5989 h8.symm)))]; rfl))) rfl dX12_taken_111
          · refine lv_istore_n (lv' := [(3, .int 2), (0, .ref h0), (1, .int (nI jt)), (2, .int x2)]) hx hb dX12_taken_70 rfl hl (by decide) rfl (fun ls hl => ?_)
            refine lv_iload_n hx hb dX12_taken_71 rfl (lv_at hl 0 rfl) ?_
            refine lv_if_ge (tgt := 78) hx hb dX12_taken_72 (by decide) (fun _ => ?_) (fun c9 => absurd (by decide) c9)
            refine lv_iload_n hx hb dX12_taken_78 rfl (lv_at hl 0 rfl) ?_
            refine lv_if_lt (tgt := 95) hx hb dX12_taken_79 (by decide) (fun c9 => absurd c9 (by decide)) (fun _ => ?_)
            refine lv_iload_n hx hb dX12_taken_82 rfl (lv_at hl 0 rfl) ?_
            refine lv_iload_n hx hb dX12_taken_83 rfl (lv_at hl 3 rfl) ?_
            refine lv_icmp_eq (tgt := 95) hx hb dX12_taken_84 (by decide) (fun c_84_5993 => ?_) (fun c_84_5993 => ?_)
            · refine lv_iload_n hx hb dX12_taken_95 rfl (lv_at hl 0 rfl) ?_
              refine lv_iload_n hx hb dX12_taken_96 rfl (lv_at hl 3 rfl) ?_
              refine lv_icmp_ne (tgt := 109) hx hb dX12_taken_97 (by decide) (fun c9 => absurd (c_84_5993) c9) (fun _ => ?_)
              refine lv_aload_n hx hb dX12_taken_100 rfl (lv_at hl 1 rfl) ?_
              refine gf_X12_75 hC rfl hK hP 0 rfl rfl dX12_taken_101 ?_
              refine lv_iload_n hx hb dX12_taken_104 rfl (lv_at hl 2 rfl) ?_
              refine ald hC hK hP 3 rfl (vp_in_nI (by omega) (by omega)) (k := jt) (nI_clamp (by omega)) (v := fnsf jt) rfl dX12_taken_105 ?_
              refine lv_goto (tgt := 111) hx hb dX12_taken_106 (by decide) ?_
              exact RP (v := fnsf jt) hC ((by first | rfl | (simp only [nI_clamp (n := jt) (by omega), ifc_t ekq, ifc_t hkq, ifc_t ek8, ifc_t hk8, ifc_t ek9, ifc_t hk9, ifc_t hN, ifc_t a5926, ifc_f a5928, ifc_t a5982, ifc_f c_37_5983, ifc_t c_84_5993, ifc_t (q := Wi x2 0 6 ∨ Wi x2 10 14) (Or.inr a5982), a5985, ifc_f (q := (2 : Int32) < 0) (by decide), ifc_t (q := UNl (2 : Int32).toNatClampNeg x2) (show UNl 2 x2 from Or.inl (c_84_5993.symm))]; done) | (simp only [nI_clamp (n := jt) (by omega), ifc_t ekq, ifc_t hkq, ifc_t ek8, ifc_t hk8, ifc_t ek9, ifc_t hk9, ifc_t hN, ifc_t a5926, ifc_f a5928, ifc_t a5982, ifc_f c_37_5983, ifc_t c_84_5993, ifc_t (q := Wi x2 0 6 ∨ Wi x2 10 14) (Or.inr a5982), a5985, ifc_f (q := (2 : Int32) < 0) (by decide), ifc_t (q := UNl (2 : Int32).toNatClampNeg x2) (show UNl 2 x2 from Or.inl (c_84_5993.symm))]; rfl))) rfl dX12_taken_111
            · refine lv_iload_n hx hb dX12_taken_87 rfl (lv_at hl 0 rfl) ?_
              refine pS hC hK hl (m_above2 l G) si_X12_348 rfl rfl (Nat.le_of_ble_eq_true rfl) ⟨Nat.le_of_ble_eq_true rfl, Nat.le_of_ble_eq_true rfl⟩ ⟨by first | exact Nat.le_of_ble_eq_true rfl | exact Nat.zero_le _, by first | exact Nat.le_of_ble_eq_true rfl | exact Nat.zero_le _⟩ dX12_taken_88 (fun r5994 hr5994 => ?_)
              obtain rfl := hr5994
              refine lv_istore_n (lv' := [(3, .int 0), (0, .ref h0), (1, .int (nI jt)), (2, .int x2)]) hx hb dX12_taken_91 rfl hl (by decide) rfl (fun ls hl => ?_)
              refine lv_goto (tgt := 78) hx hb dX12_taken_92 (by decide) ?_
              refine lv_iload_n hx hb dX12_taken_78 rfl (lv_at hl 0 rfl) ?_
              refine lv_if_lt (tgt := 95) hx hb dX12_taken_79 (by decide) (fun c9 => absurd c9 (by decide)) (fun _ => ?_)
              refine lv_iload_n hx hb dX12_taken_82 rfl (lv_at hl 0 rfl) ?_
              refine lv_iload_n hx hb dX12_taken_83 rfl (lv_at hl 3 rfl) ?_
              refine lv_icmp_eq (tgt := 95) hx hb dX12_taken_84 (by decide) (fun c_84_5996 => ?_) (fun c_84_5996 => ?_)
              · refine lv_iload_n hx hb dX12_taken_95 rfl (lv_at hl 0 rfl) ?_
                refine lv_iload_n hx hb dX12_taken_96 rfl (lv_at hl 3 rfl) ?_
                refine lv_icmp_ne (tgt := 109) hx hb dX12_taken_97 (by decide) (fun c9 => absurd (c_84_5996) c9) (fun _ => ?_)
                refine lv_aload_n hx hb dX12_taken_100 rfl (lv_at hl 1 rfl) ?_
                refine gf_X12_75 hC rfl hK hP 0 rfl rfl dX12_taken_101 ?_
                refine lv_iload_n hx hb dX12_taken_104 rfl (lv_at hl 2 rfl) ?_
                refine ald hC hK hP 3 rfl (vp_in_nI (by omega) (by omega)) (k := jt) (nI_clamp (by omega)) (v := fnsf jt) rfl dX12_taken_105 ?_
                refine lv_goto (tgt := 111) hx hb dX12_taken_106 (by decide) ?_
                exact RP (v := fnsf jt) hC ((by first | rfl | (simp only [nI_clamp (n := jt) (by omega), ifc_t ekq, ifc_t hkq, ifc_t ek8, ifc_t hk8, ifc_t ek9, ifc_t hk9, ifc_t hN, ifc_t a5926, ifc_f a5928, ifc_t a5982, ifc_f c_37_5983, ifc_f c_84_5993, ifc_t c_84_5996, ifc_t (q := Wi x2 0 6 ∨ Wi x2 10 14) (Or.inr a5982), a5985, ifc_f (q := (2 : Int32) < 0) (by decide), ifc_t (q := UNl (2 : Int32).toNatClampNeg x2) (show UNl 2 x2 from Or.inr (c_84_5996.symm))]; done) | (simp only [nI_clamp (n := jt) (by omega), ifc_t ekq, ifc_t hkq, ifc_t ek8, ifc_t hk8, ifc_t ek9, ifc_t hk9, ifc_t hN, ifc_t a5926, ifc_f a5928, ifc_t a5982, ifc_f c_37_5983, ifc_f c_84_5993, ifc_t c_84_5996, ifc_t (q := Wi x2 0 6 ∨ Wi x2 10 14) (Or.inr a5982), a5985, ifc_f (q := (2 : Int32) < 0) (by decide), ifc_t (q := UNl (2 : Int32).toNatClampNeg x2) (show UNl 2 x2 from Or.inr (c_84_5996.symm))]; rfl))) rfl dX12_taken_111
              · refine lv_iload_n hx hb dX12_taken_87 rfl (lv_at hl 0 rfl) ?_
                refine pS hC hK hl (m_above0 l G) si_X12_348 rfl rfl (Nat.le_of_ble_eq_true rfl) ⟨Nat.le_of_ble_eq_true rfl, Nat.le_of_ble_eq_true rfl⟩ ⟨by first | exact Nat.le_of_ble_eq_true rfl | exact Nat.zero_le _, by first | exact Nat.le_of_ble_eq_true rfl | exact Nat.zero_le _⟩ dX12_taken_88 (fun r5997 hr5997 => ?_)
                obtain rfl := hr5997
                refine lv_istore_n (lv' := [(3, .int (-1)), (0, .ref h0), (1, .int (nI jt)), (2, .int x2)]) hx hb dX12_taken_91 rfl hl (by decide) rfl (fun ls hl => ?_)
                refine lv_goto (tgt := 78) hx hb dX12_taken_92 (by decide) ?_
                refine lv_iload_n hx hb dX12_taken_78 rfl (lv_at hl 0 rfl) ?_
                refine lv_if_lt (tgt := 95) hx hb dX12_taken_79 (by decide) (fun _ => ?_) (fun c9 => absurd (by decide) c9)
                refine lv_iload_n hx hb dX12_taken_95 rfl (lv_at hl 0 rfl) ?_
                refine lv_iload_n hx hb dX12_taken_96 rfl (lv_at hl 3 rfl) ?_
                refine lv_icmp_ne (tgt := 109) hx hb dX12_taken_97 (by decide) (fun c_97_5999 => ?_) (fun c_97_5999 => ?_)
                · refine lv_bipush (v := (-13)) hx hb dX12_taken_109 (by decide) ?_
                  exact RP (v := (-13)) hC ((by first | rfl | (simp only [nI_clamp (n := jt) (by omega), ifc_t ekq, ifc_t hkq, ifc_t ek8, ifc_t hk8, ifc_t ek9, ifc_t hk9, ifc_t hN, ifc_t a5926, ifc_f a5928, ifc_t a5982, ifc_f c_37_5983, ifc_f c_84_5993, ifc_f c_84_5996, ifc_f c_97_5999, ifc_t (q := Wi x2 0 6 ∨ Wi x2 10 14) (Or.inr a5982), a5985, ifc_f (q := (2 : Int32) < 0) (by decide), ifc_f (q := UNl (2 : Int32).toNatClampNeg x2) (fun h9 => (show False from by have h7 : x2 = 2 ∨ x2 = 0 := h9; rcases h7 with h8 | h8 <;> (first | exact c_84_5993 h8.symm | exact c_84_5996 h8.symm)))]; done) | (simp only [nI_clamp (n := jt) (by omega), ifc_t ekq, ifc_t hkq, ifc_t ek8, ifc_t hk8, ifc_t ek9, ifc_t hk9, ifc_t hN, ifc_t a5926, ifc_f a5928, ifc_t a5982, ifc_f c_37_5983, ifc_f c_84_5993, ifc_f c_84_5996, ifc_f c_97_5999, ifc_t (q := Wi x2 0 6 ∨ Wi x2 10 14) (Or.inr a5982), a5985, ifc_f (q := (2 : Int32) < 0) (by decide), ifc_f (q := UNl (2 : Int32).toNatClampNeg x2) (fun h9 => (show False from by have h7 : x2 = 2 ∨ x2 = 0 := h9; rcases h7 with h8 | h8 <;> (first | exact c_84_5993 h8.symm | exact c_84_5996 h8.symm)))]; rfl))) rfl dX12_taken_111
                · refine lv_aload_n hx hb dX12_taken_100 rfl (lv_at hl 1 rfl) ?_
                  refine gf_X12_75 hC rfl hK hP 0 rfl rfl dX12_taken_101 ?_
                  refine lv_iload_n hx hb dX12_taken_104 rfl (lv_at hl 2 rfl) ?_
                  refine ald hC hK hP 3 rfl (vp_in_nI (by omega) (by omega)) (k := jt) (nI_clamp (by omega)) (v := fnsf jt) rfl dX12_taken_105 ?_
                  refine lv_goto (tgt := 111) hx hb dX12_taken_106 (by decide) ?_
                  exact RP (v := fnsf jt) hC ((by first | rfl | (simp only [nI_clamp (n := jt) (by omega), ifc_t ekq, ifc_t hkq, ifc_t ek8, ifc_t hk8, ifc_t ek9, ifc_t hk9, ifc_t hN, ifc_t a5926, ifc_f a5928, ifc_t a5982, ifc_f c_37_5983, ifc_f c_84_5993, ifc_f c_84_5996, ifc_t c_97_5999, ifc_t (q := Wi x2 0 6 ∨ Wi x2 10 14) (Or.inr a5982), a5985, ifc_f (q := (2 : Int32) < 0) (by decide), ifc_f (q := UNl (2 : Int32).toNatClampNeg x2) (fun h9 => (show False from by have h7 : x2 = 2 ∨ x2 = 0 := h9; rcases h7 with h8 | h8 <;> (first | exact c_84_5993 h8.symm | exact c_84_5996 h8.symm)))]; done) | (simp only [nI_clamp (n := jt) (by omega), ifc_t ekq, ifc_t hkq, ifc_t ek8, ifc_t hk8, ifc_t ek9, ifc_t hk9, ifc_t hN, ifc_t a5926, ifc_f a5928, ifc_t a5982, ifc_f c_37_5983, ifc_f c_84_5993, ifc_f c_84_5996, ifc_t c_97_5999, ifc_t (q := Wi x2 0 6 ∨ Wi x2 10 14) (Or.inr a5982), a5985, ifc_f (q := (2 : Int32) < 0) (by decide), ifc_f (q := UNl (2 : Int32).toNatClampNeg x2) (fun h9 => (show False from by have h7 : x2 = 2 ∨ x2 = 0 := h9; rcases h7 with h8 | h8 <;> (first | exact c_84_5993 h8.symm | exact c_84_5996 h8.symm)))]; rfl))) rfl dX12_taken_111
          · refine lv_istore_n (lv' := [(3, .int 3), (0, .ref h0), (1, .int (nI jt)), (2, .int x2)]) hx hb dX12_taken_70 rfl hl (by decide) rfl (fun ls hl => ?_)
            refine lv_iload_n hx hb dX12_taken_71 rfl (lv_at hl 0 rfl) ?_
            refine lv_if_ge (tgt := 78) hx hb dX12_taken_72 (by decide) (fun _ => ?_) (fun c9 => absurd (by decide) c9)
            refine lv_iload_n hx hb dX12_taken_78 rfl (lv_at hl 0 rfl) ?_
            refine lv_if_lt (tgt := 95) hx hb dX12_taken_79 (by decide) (fun c9 => absurd c9 (by decide)) (fun _ => ?_)
            refine lv_iload_n hx hb dX12_taken_82 rfl (lv_at hl 0 rfl) ?_
            refine lv_iload_n hx hb dX12_taken_83 rfl (lv_at hl 3 rfl) ?_
            refine lv_icmp_eq (tgt := 95) hx hb dX12_taken_84 (by decide) (fun c_84_6000 => ?_) (fun c_84_6000 => ?_)
            · refine lv_iload_n hx hb dX12_taken_95 rfl (lv_at hl 0 rfl) ?_
              refine lv_iload_n hx hb dX12_taken_96 rfl (lv_at hl 3 rfl) ?_
              refine lv_icmp_ne (tgt := 109) hx hb dX12_taken_97 (by decide) (fun c9 => absurd (c_84_6000) c9) (fun _ => ?_)
              refine lv_aload_n hx hb dX12_taken_100 rfl (lv_at hl 1 rfl) ?_
              refine gf_X12_75 hC rfl hK hP 0 rfl rfl dX12_taken_101 ?_
              refine lv_iload_n hx hb dX12_taken_104 rfl (lv_at hl 2 rfl) ?_
              refine ald hC hK hP 3 rfl (vp_in_nI (by omega) (by omega)) (k := jt) (nI_clamp (by omega)) (v := fnsf jt) rfl dX12_taken_105 ?_
              refine lv_goto (tgt := 111) hx hb dX12_taken_106 (by decide) ?_
              exact RP (v := fnsf jt) hC ((by first | rfl | (simp only [nI_clamp (n := jt) (by omega), ifc_t ekq, ifc_t hkq, ifc_t ek8, ifc_t hk8, ifc_t ek9, ifc_t hk9, ifc_t hN, ifc_t a5926, ifc_f a5928, ifc_t a5982, ifc_f c_37_5983, ifc_t c_84_6000, ifc_t (q := Wi x2 0 6 ∨ Wi x2 10 14) (Or.inr a5982), a5985, ifc_f (q := (3 : Int32) < 0) (by decide), ifc_t (q := UNl (3 : Int32).toNatClampNeg x2) (show UNl 3 x2 from Or.inl (c_84_6000.symm))]; done) | (simp only [nI_clamp (n := jt) (by omega), ifc_t ekq, ifc_t hkq, ifc_t ek8, ifc_t hk8, ifc_t ek9, ifc_t hk9, ifc_t hN, ifc_t a5926, ifc_f a5928, ifc_t a5982, ifc_f c_37_5983, ifc_t c_84_6000, ifc_t (q := Wi x2 0 6 ∨ Wi x2 10 14) (Or.inr a5982), a5985, ifc_f (q := (3 : Int32) < 0) (by decide), ifc_t (q := UNl (3 : Int32).toNatClampNeg x2) (show UNl 3 x2 from Or.inl (c_84_6000.symm))]; rfl))) rfl dX12_taken_111
            · refine lv_iload_n hx hb dX12_taken_87 rfl (lv_at hl 0 rfl) ?_
              refine pS hC hK hl (m_above3 l G) si_X12_348 rfl rfl (Nat.le_of_ble_eq_true rfl) ⟨Nat.le_of_ble_eq_true rfl, Nat.le_of_ble_eq_true rfl⟩ ⟨by first | exact Nat.le_of_ble_eq_true rfl | exact Nat.zero_le _, by first | exact Nat.le_of_ble_eq_true rfl | exact Nat.zero_le _⟩ dX12_taken_88 (fun r6001 hr6001 => ?_)
              obtain rfl := hr6001
              refine lv_istore_n (lv' := [(3, .int 1), (0, .ref h0), (1, .int (nI jt)), (2, .int x2)]) hx hb dX12_taken_91 rfl hl (by decide) rfl (fun ls hl => ?_)
              refine lv_goto (tgt := 78) hx hb dX12_taken_92 (by decide) ?_
              refine lv_iload_n hx hb dX12_taken_78 rfl (lv_at hl 0 rfl) ?_
              refine lv_if_lt (tgt := 95) hx hb dX12_taken_79 (by decide) (fun c9 => absurd c9 (by decide)) (fun _ => ?_)
              refine lv_iload_n hx hb dX12_taken_82 rfl (lv_at hl 0 rfl) ?_
              refine lv_iload_n hx hb dX12_taken_83 rfl (lv_at hl 3 rfl) ?_
              refine lv_icmp_eq (tgt := 95) hx hb dX12_taken_84 (by decide) (fun c_84_6003 => ?_) (fun c_84_6003 => ?_)
              · refine lv_iload_n hx hb dX12_taken_95 rfl (lv_at hl 0 rfl) ?_
                refine lv_iload_n hx hb dX12_taken_96 rfl (lv_at hl 3 rfl) ?_
                refine lv_icmp_ne (tgt := 109) hx hb dX12_taken_97 (by decide) (fun c9 => absurd (c_84_6003) c9) (fun _ => ?_)
                refine lv_aload_n hx hb dX12_taken_100 rfl (lv_at hl 1 rfl) ?_
                refine gf_X12_75 hC rfl hK hP 0 rfl rfl dX12_taken_101 ?_
                refine lv_iload_n hx hb dX12_taken_104 rfl (lv_at hl 2 rfl) ?_
                refine ald hC hK hP 3 rfl (vp_in_nI (by omega) (by omega)) (k := jt) (nI_clamp (by omega)) (v := fnsf jt) rfl dX12_taken_105 ?_
                refine lv_goto (tgt := 111) hx hb dX12_taken_106 (by decide) ?_
                exact RP (v := fnsf jt) hC ((by first | rfl | (simp only [nI_clamp (n := jt) (by omega), ifc_t ekq, ifc_t hkq, ifc_t ek8, ifc_t hk8, ifc_t ek9, ifc_t hk9, ifc_t hN, ifc_t a5926, ifc_f a5928, ifc_t a5982, ifc_f c_37_5983, ifc_f c_84_6000, ifc_t c_84_6003, ifc_t (q := Wi x2 0 6 ∨ Wi x2 10 14) (Or.inr a5982), a5985, ifc_f (q := (3 : Int32) < 0) (by decide), ifc_t (q := UNl (3 : Int32).toNatClampNeg x2) (show UNl 3 x2 from Or.inr (Or.inl (c_84_6003.symm)))]; done) | (simp only [nI_clamp (n := jt) (by omega), ifc_t ekq, ifc_t hkq, ifc_t ek8, ifc_t hk8, ifc_t ek9, ifc_t hk9, ifc_t hN, ifc_t a5926, ifc_f a5928, ifc_t a5982, ifc_f c_37_5983, ifc_f c_84_6000, ifc_t c_84_6003, ifc_t (q := Wi x2 0 6 ∨ Wi x2 10 14) (Or.inr a5982), a5985, ifc_f (q := (3 : Int32) < 0) (by decide), ifc_t (q := UNl (3 : Int32).toNatClampNeg x2) (show UNl 3 x2 from Or.inr (Or.inl (c_84_6003.symm)))]; rfl))) rfl dX12_taken_111
              · refine lv_iload_n hx hb dX12_taken_87 rfl (lv_at hl 0 rfl) ?_
                refine pS hC hK hl (m_above1 l G) si_X12_348 rfl rfl (Nat.le_of_ble_eq_true rfl) ⟨Nat.le_of_ble_eq_true rfl, Nat.le_of_ble_eq_true rfl⟩ ⟨by first | exact Nat.le_of_ble_eq_true rfl | exact Nat.zero_le _, by first | exact Nat.le_of_ble_eq_true rfl | exact Nat.zero_le _⟩ dX12_taken_88 (fun r6004 hr6004 => ?_)
                obtain rfl := hr6004
                refine lv_istore_n (lv' := [(3, .int 0), (0, .ref h0), (1, .int (nI jt)), (2, .int x2)]) hx hb dX12_taken_91 rfl hl (by decide) rfl (fun ls hl => ?_)
                refine lv_goto (tgt := 78) hx hb dX12_taken_92 (by decide) ?_
                refine lv_iload_n hx hb dX12_taken_78 rfl (lv_at hl 0 rfl) ?_
                refine lv_if_lt (tgt := 95) hx hb dX12_taken_79 (by decide) (fun c9 => absurd c9 (by decide)) (fun _ => ?_)
                refine lv_iload_n hx hb dX12_taken_82 rfl (lv_at hl 0 rfl) ?_
                refine lv_iload_n hx hb dX12_taken_83 rfl (lv_at hl 3 rfl) ?_
                refine lv_icmp_eq (tgt := 95) hx hb dX12_taken_84 (by decide) (fun c_84_6006 => ?_) (fun c_84_6006 => ?_)
                · refine lv_iload_n hx hb dX12_taken_95 rfl (lv_at hl 0 rfl) ?_
                  refine lv_iload_n hx hb dX12_taken_96 rfl (lv_at hl 3 rfl) ?_
                  refine lv_icmp_ne (tgt := 109) hx hb dX12_taken_97 (by decide) (fun c9 => absurd (c_84_6006) c9) (fun _ => ?_)
                  refine lv_aload_n hx hb dX12_taken_100 rfl (lv_at hl 1 rfl) ?_
                  refine gf_X12_75 hC rfl hK hP 0 rfl rfl dX12_taken_101 ?_
                  refine lv_iload_n hx hb dX12_taken_104 rfl (lv_at hl 2 rfl) ?_
                  refine ald hC hK hP 3 rfl (vp_in_nI (by omega) (by omega)) (k := jt) (nI_clamp (by omega)) (v := fnsf jt) rfl dX12_taken_105 ?_
                  refine lv_goto (tgt := 111) hx hb dX12_taken_106 (by decide) ?_
                  exact RP (v := fnsf jt) hC ((by first | rfl | (simp only [nI_clamp (n := jt) (by omega), ifc_t ekq, ifc_t hkq, ifc_t ek8, ifc_t hk8, ifc_t ek9, ifc_t hk9, ifc_t hN, ifc_t a5926, ifc_f a5928, ifc_t a5982, ifc_f c_37_5983, ifc_f c_84_6000, ifc_f c_84_6003, ifc_t c_84_6006, ifc_t (q := Wi x2 0 6 ∨ Wi x2 10 14) (Or.inr a5982), a5985, ifc_f (q := (3 : Int32) < 0) (by decide), ifc_t (q := UNl (3 : Int32).toNatClampNeg x2) (show UNl 3 x2 from Or.inr (Or.inr (c_84_6006.symm)))]; done) | (simp only [nI_clamp (n := jt) (by omega), ifc_t ekq, ifc_t hkq, ifc_t ek8, ifc_t hk8, ifc_t ek9, ifc_t hk9, ifc_t hN, ifc_t a5926, ifc_f a5928, ifc_t a5982, ifc_f c_37_5983, ifc_f c_84_6000, ifc_f c_84_6003, ifc_t c_84_6006, ifc_t (q := Wi x2 0 6 ∨ Wi x2 10 14) (Or.inr a5982), a5985, ifc_f (q := (3 : Int32) < 0) (by decide), ifc_t (q := UNl (3 : Int32).toNatClampNeg x2) (show UNl 3 x2 from Or.inr (Or.inr (c_84_6006.symm)))]; rfl))) rfl dX12_taken_111
                · refine lv_iload_n hx hb dX12_taken_87 rfl (lv_at hl 0 rfl) ?_
                  refine pS hC hK hl (m_above0 l G) si_X12_348 rfl rfl (Nat.le_of_ble_eq_true rfl) ⟨Nat.le_of_ble_eq_true rfl, Nat.le_of_ble_eq_true rfl⟩ ⟨by first | exact Nat.le_of_ble_eq_true rfl | exact Nat.zero_le _, by first | exact Nat.le_of_ble_eq_true rfl | exact Nat.zero_le _⟩ dX12_taken_88 (fun r6007 hr6007 => ?_)
                  obtain rfl := hr6007
                  refine lv_istore_n (lv' := [(3, .int (-1)), (0, .ref h0), (1, .int (nI jt)), (2, .int x2)]) hx hb dX12_taken_91 rfl hl (by decide) rfl (fun ls hl => ?_)
                  refine lv_goto (tgt := 78) hx hb dX12_taken_92 (by decide) ?_
                  refine lv_iload_n hx hb dX12_taken_78 rfl (lv_at hl 0 rfl) ?_
                  refine lv_if_lt (tgt := 95) hx hb dX12_taken_79 (by decide) (fun _ => ?_) (fun c9 => absurd (by decide) c9)
                  refine lv_iload_n hx hb dX12_taken_95 rfl (lv_at hl 0 rfl) ?_
                  refine lv_iload_n hx hb dX12_taken_96 rfl (lv_at hl 3 rfl) ?_
                  refine lv_icmp_ne (tgt := 109) hx hb dX12_taken_97 (by decide) (fun c_97_6009 => ?_) (fun c_97_6009 => ?_)
                  · refine lv_bipush (v := (-13)) hx hb dX12_taken_109 (by decide) ?_
                    exact RP (v := (-13)) hC ((by first | rfl | (simp only [nI_clamp (n := jt) (by omega), ifc_t ekq, ifc_t hkq, ifc_t ek8, ifc_t hk8, ifc_t ek9, ifc_t hk9, ifc_t hN, ifc_t a5926, ifc_f a5928, ifc_t a5982, ifc_f c_37_5983, ifc_f c_84_6000, ifc_f c_84_6003, ifc_f c_84_6006, ifc_f c_97_6009, ifc_t (q := Wi x2 0 6 ∨ Wi x2 10 14) (Or.inr a5982), a5985, ifc_f (q := (3 : Int32) < 0) (by decide), ifc_f (q := UNl (3 : Int32).toNatClampNeg x2) (fun h9 => (show False from by have h7 : x2 = 3 ∨ x2 = 1 ∨ x2 = 0 := h9; rcases h7 with h8 | h8 | h8 <;> (first | exact c_84_6000 h8.symm | exact c_84_6003 h8.symm | exact c_84_6006 h8.symm)))]; done) | (simp only [nI_clamp (n := jt) (by omega), ifc_t ekq, ifc_t hkq, ifc_t ek8, ifc_t hk8, ifc_t ek9, ifc_t hk9, ifc_t hN, ifc_t a5926, ifc_f a5928, ifc_t a5982, ifc_f c_37_5983, ifc_f c_84_6000, ifc_f c_84_6003, ifc_f c_84_6006, ifc_f c_97_6009, ifc_t (q := Wi x2 0 6 ∨ Wi x2 10 14) (Or.inr a5982), a5985, ifc_f (q := (3 : Int32) < 0) (by decide), ifc_f (q := UNl (3 : Int32).toNatClampNeg x2) (fun h9 => (show False from by have h7 : x2 = 3 ∨ x2 = 1 ∨ x2 = 0 := h9; rcases h7 with h8 | h8 | h8 <;> (first | exact c_84_6000 h8.symm | exact c_84_6003 h8.symm | exact c_84_6006 h8.symm)))]; rfl))) rfl dX12_taken_111
                  · refine lv_aload_n hx hb dX12_taken_100 rfl (lv_at hl 1 rfl) ?_
                    refine gf_X12_75 hC rfl hK hP 0 rfl rfl dX12_taken_101 ?_
                    refine lv_iload_n hx hb dX12_taken_104 rfl (lv_at hl 2 rfl) ?_
                    refine ald hC hK hP 3 rfl (vp_in_nI (by omega) (by omega)) (k := jt) (nI_clamp (by omega)) (v := fnsf jt) rfl dX12_taken_105 ?_
                    refine lv_goto (tgt := 111) hx hb dX12_taken_106 (by decide) ?_
                    exact RP (v := fnsf jt) hC ((by first | rfl | (simp only [nI_clamp (n := jt) (by omega), ifc_t ekq, ifc_t hkq, ifc_t ek8, ifc_t hk8, ifc_t ek9, ifc_t hk9, ifc_t hN, ifc_t a5926, ifc_f a5928, ifc_t a5982, ifc_f c_37_5983, ifc_f c_84_6000, ifc_f c_84_6003, ifc_f c_84_6006, ifc_t c_97_6009, ifc_t (q := Wi x2 0 6 ∨ Wi x2 10 14) (Or.inr a5982), a5985, ifc_f (q := (3 : Int32) < 0) (by decide), ifc_f (q := UNl (3 : Int32).toNatClampNeg x2) (fun h9 => (show False from by have h7 : x2 = 3 ∨ x2 = 1 ∨ x2 = 0 := h9; rcases h7 with h8 | h8 | h8 <;> (first | exact c_84_6000 h8.symm | exact c_84_6003 h8.symm | exact c_84_6006 h8.symm)))]; done) | (simp only [nI_clamp (n := jt) (by omega), ifc_t ekq, ifc_t hkq, ifc_t ek8, ifc_t hk8, ifc_t ek9, ifc_t hk9, ifc_t hN, ifc_t a5926, ifc_f a5928, ifc_t a5982, ifc_f c_37_5983, ifc_f c_84_6000, ifc_f c_84_6003, ifc_f c_84_6006, ifc_t c_97_6009, ifc_t (q := Wi x2 0 6 ∨ Wi x2 10 14) (Or.inr a5982), a5985, ifc_f (q := (3 : Int32) < 0) (by decide), ifc_f (q := UNl (3 : Int32).toNatClampNeg x2) (fun h9 => (show False from by have h7 : x2 = 3 ∨ x2 = 1 ∨ x2 = 0 := h9; rcases h7 with h8 | h8 | h8 <;> (first | exact c_84_6000 h8.symm | exact c_84_6003 h8.symm | exact c_84_6006 h8.symm)))]; rfl))) rfl dX12_taken_111
          · refine lv_istore_n (lv' := [(3, .int 4), (0, .ref h0), (1, .int (nI jt)), (2, .int x2)]) hx hb dX12_taken_70 rfl hl (by decide) rfl (fun ls hl => ?_)
            refine lv_iload_n hx hb dX12_taken_71 rfl (lv_at hl 0 rfl) ?_
            refine lv_if_ge (tgt := 78) hx hb dX12_taken_72 (by decide) (fun _ => ?_) (fun c9 => absurd (by decide) c9)
            refine lv_iload_n hx hb dX12_taken_78 rfl (lv_at hl 0 rfl) ?_
            refine lv_if_lt (tgt := 95) hx hb dX12_taken_79 (by decide) (fun c9 => absurd c9 (by decide)) (fun _ => ?_)
            refine lv_iload_n hx hb dX12_taken_82 rfl (lv_at hl 0 rfl) ?_
            refine lv_iload_n hx hb dX12_taken_83 rfl (lv_at hl 3 rfl) ?_
            refine lv_icmp_eq (tgt := 95) hx hb dX12_taken_84 (by decide) (fun c_84_6010 => ?_) (fun c_84_6010 => ?_)
            · refine lv_iload_n hx hb dX12_taken_95 rfl (lv_at hl 0 rfl) ?_
              refine lv_iload_n hx hb dX12_taken_96 rfl (lv_at hl 3 rfl) ?_
              refine lv_icmp_ne (tgt := 109) hx hb dX12_taken_97 (by decide) (fun c9 => absurd (c_84_6010) c9) (fun _ => ?_)
              refine lv_aload_n hx hb dX12_taken_100 rfl (lv_at hl 1 rfl) ?_
              refine gf_X12_75 hC rfl hK hP 0 rfl rfl dX12_taken_101 ?_
              refine lv_iload_n hx hb dX12_taken_104 rfl (lv_at hl 2 rfl) ?_
              refine ald hC hK hP 3 rfl (vp_in_nI (by omega) (by omega)) (k := jt) (nI_clamp (by omega)) (v := fnsf jt) rfl dX12_taken_105 ?_
              refine lv_goto (tgt := 111) hx hb dX12_taken_106 (by decide) ?_
              exact RP (v := fnsf jt) hC ((by first | rfl | (simp only [nI_clamp (n := jt) (by omega), ifc_t ekq, ifc_t hkq, ifc_t ek8, ifc_t hk8, ifc_t ek9, ifc_t hk9, ifc_t hN, ifc_t a5926, ifc_f a5928, ifc_t a5982, ifc_f c_37_5983, ifc_t c_84_6010, ifc_t (q := Wi x2 0 6 ∨ Wi x2 10 14) (Or.inr a5982), a5985, ifc_f (q := (4 : Int32) < 0) (by decide), ifc_t (q := UNl (4 : Int32).toNatClampNeg x2) (show UNl 4 x2 from Or.inl (c_84_6010.symm))]; done) | (simp only [nI_clamp (n := jt) (by omega), ifc_t ekq, ifc_t hkq, ifc_t ek8, ifc_t hk8, ifc_t ek9, ifc_t hk9, ifc_t hN, ifc_t a5926, ifc_f a5928, ifc_t a5982, ifc_f c_37_5983, ifc_t c_84_6010, ifc_t (q := Wi x2 0 6 ∨ Wi x2 10 14) (Or.inr a5982), a5985, ifc_f (q := (4 : Int32) < 0) (by decide), ifc_t (q := UNl (4 : Int32).toNatClampNeg x2) (show UNl 4 x2 from Or.inl (c_84_6010.symm))]; rfl))) rfl dX12_taken_111
            · refine lv_iload_n hx hb dX12_taken_87 rfl (lv_at hl 0 rfl) ?_
              refine pS hC hK hl (m_above4 l G) si_X12_348 rfl rfl (Nat.le_of_ble_eq_true rfl) ⟨Nat.le_of_ble_eq_true rfl, Nat.le_of_ble_eq_true rfl⟩ ⟨by first | exact Nat.le_of_ble_eq_true rfl | exact Nat.zero_le _, by first | exact Nat.le_of_ble_eq_true rfl | exact Nat.zero_le _⟩ dX12_taken_88 (fun r6011 hr6011 => ?_)
              obtain rfl := hr6011
              refine lv_istore_n (lv' := [(3, .int 0), (0, .ref h0), (1, .int (nI jt)), (2, .int x2)]) hx hb dX12_taken_91 rfl hl (by decide) rfl (fun ls hl => ?_)
              refine lv_goto (tgt := 78) hx hb dX12_taken_92 (by decide) ?_
              refine lv_iload_n hx hb dX12_taken_78 rfl (lv_at hl 0 rfl) ?_
              refine lv_if_lt (tgt := 95) hx hb dX12_taken_79 (by decide) (fun c9 => absurd c9 (by decide)) (fun _ => ?_)
              refine lv_iload_n hx hb dX12_taken_82 rfl (lv_at hl 0 rfl) ?_
              refine lv_iload_n hx hb dX12_taken_83 rfl (lv_at hl 3 rfl) ?_
              refine lv_icmp_eq (tgt := 95) hx hb dX12_taken_84 (by decide) (fun c_84_6013 => ?_) (fun c_84_6013 => ?_)
              · refine lv_iload_n hx hb dX12_taken_95 rfl (lv_at hl 0 rfl) ?_
                refine lv_iload_n hx hb dX12_taken_96 rfl (lv_at hl 3 rfl) ?_
                refine lv_icmp_ne (tgt := 109) hx hb dX12_taken_97 (by decide) (fun c9 => absurd (c_84_6013) c9) (fun _ => ?_)
                refine lv_aload_n hx hb dX12_taken_100 rfl (lv_at hl 1 rfl) ?_
                refine gf_X12_75 hC rfl hK hP 0 rfl rfl dX12_taken_101 ?_
                refine lv_iload_n hx hb dX12_taken_104 rfl (lv_at hl 2 rfl) ?_
                refine ald hC hK hP 3 rfl (vp_in_nI (by omega) (by omega)) (k := jt) (nI_clamp (by omega)) (v := fnsf jt) rfl dX12_taken_105 ?_
                refine lv_goto (tgt := 111) hx hb dX12_taken_106 (by decide) ?_
                exact RP (v := fnsf jt) hC ((by first | rfl | (simp only [nI_clamp (n := jt) (by omega), ifc_t ekq, ifc_t hkq, ifc_t ek8, ifc_t hk8, ifc_t ek9, ifc_t hk9, ifc_t hN, ifc_t a5926, ifc_f a5928, ifc_t a5982, ifc_f c_37_5983, ifc_f c_84_6010, ifc_t c_84_6013, ifc_t (q := Wi x2 0 6 ∨ Wi x2 10 14) (Or.inr a5982), a5985, ifc_f (q := (4 : Int32) < 0) (by decide), ifc_t (q := UNl (4 : Int32).toNatClampNeg x2) (show UNl 4 x2 from Or.inr (c_84_6013.symm))]; done) | (simp only [nI_clamp (n := jt) (by omega), ifc_t ekq, ifc_t hkq, ifc_t ek8, ifc_t hk8, ifc_t ek9, ifc_t hk9, ifc_t hN, ifc_t a5926, ifc_f a5928, ifc_t a5982, ifc_f c_37_5983, ifc_f c_84_6010, ifc_t c_84_6013, ifc_t (q := Wi x2 0 6 ∨ Wi x2 10 14) (Or.inr a5982), a5985, ifc_f (q := (4 : Int32) < 0) (by decide), ifc_t (q := UNl (4 : Int32).toNatClampNeg x2) (show UNl 4 x2 from Or.inr (c_84_6013.symm))]; rfl))) rfl dX12_taken_111
              · refine lv_iload_n hx hb dX12_taken_87 rfl (lv_at hl 0 rfl) ?_
                refine pS hC hK hl (m_above0 l G) si_X12_348 rfl rfl (Nat.le_of_ble_eq_true rfl) ⟨Nat.le_of_ble_eq_true rfl, Nat.le_of_ble_eq_true rfl⟩ ⟨by first | exact Nat.le_of_ble_eq_true rfl | exact Nat.zero_le _, by first | exact Nat.le_of_ble_eq_true rfl | exact Nat.zero_le _⟩ dX12_taken_88 (fun r6014 hr6014 => ?_)
                obtain rfl := hr6014
                refine lv_istore_n (lv' := [(3, .int (-1)), (0, .ref h0), (1, .int (nI jt)), (2, .int x2)]) hx hb dX12_taken_91 rfl hl (by decide) rfl (fun ls hl => ?_)
                refine lv_goto (tgt := 78) hx hb dX12_taken_92 (by decide) ?_
                refine lv_iload_n hx hb dX12_taken_78 rfl (lv_at hl 0 rfl) ?_
                refine lv_if_lt (tgt := 95) hx hb dX12_taken_79 (by decide) (fun _ => ?_) (fun c9 => absurd (by decide) c9)
                refine lv_iload_n hx hb dX12_taken_95 rfl (lv_at hl 0 rfl) ?_
                refine lv_iload_n hx hb dX12_taken_96 rfl (lv_at hl 3 rfl) ?_
                refine lv_icmp_ne (tgt := 109) hx hb dX12_taken_97 (by decide) (fun c_97_6016 => ?_) (fun c_97_6016 => ?_)
                · refine lv_bipush (v := (-13)) hx hb dX12_taken_109 (by decide) ?_
                  exact RP (v := (-13)) hC ((by first | rfl | (simp only [nI_clamp (n := jt) (by omega), ifc_t ekq, ifc_t hkq, ifc_t ek8, ifc_t hk8, ifc_t ek9, ifc_t hk9, ifc_t hN, ifc_t a5926, ifc_f a5928, ifc_t a5982, ifc_f c_37_5983, ifc_f c_84_6010, ifc_f c_84_6013, ifc_f c_97_6016, ifc_t (q := Wi x2 0 6 ∨ Wi x2 10 14) (Or.inr a5982), a5985, ifc_f (q := (4 : Int32) < 0) (by decide), ifc_f (q := UNl (4 : Int32).toNatClampNeg x2) (fun h9 => (show False from by have h7 : x2 = 4 ∨ x2 = 0 := h9; rcases h7 with h8 | h8 <;> (first | exact c_84_6010 h8.symm | exact c_84_6013 h8.symm)))]; done) | (simp only [nI_clamp (n := jt) (by omega), ifc_t ekq, ifc_t hkq, ifc_t ek8, ifc_t hk8, ifc_t ek9, ifc_t hk9, ifc_t hN, ifc_t a5926, ifc_f a5928, ifc_t a5982, ifc_f c_37_5983, ifc_f c_84_6010, ifc_f c_84_6013, ifc_f c_97_6016, ifc_t (q := Wi x2 0 6 ∨ Wi x2 10 14) (Or.inr a5982), a5985, ifc_f (q := (4 : Int32) < 0) (by decide), ifc_f (q := UNl (4 : Int32).toNatClampNeg x2) (fun h9 => (show False from by have h7 : x2 = 4 ∨ x2 = 0 := h9; rcases h7 with h8 | h8 <;> (first | exact c_84_6010 h8.symm | exact c_84_6013 h8.symm)))]; rfl))) rfl dX12_taken_111
                · refine lv_aload_n hx hb dX12_taken_100 rfl (lv_at hl 1 rfl) ?_
                  refine gf_X12_75 hC rfl hK hP 0 rfl rfl dX12_taken_101 ?_
                  refine lv_iload_n hx hb dX12_taken_104 rfl (lv_at hl 2 rfl) ?_
                  refine ald hC hK hP 3 rfl (vp_in_nI (by omega) (by omega)) (k := jt) (nI_clamp (by omega)) (v := fnsf jt) rfl dX12_taken_105 ?_
                  refine lv_goto (tgt := 111) hx hb dX12_taken_106 (by decide) ?_
                  exact RP (v := fnsf jt) hC ((by first | rfl | (simp only [nI_clamp (n := jt) (by omega), ifc_t ekq, ifc_t hkq, ifc_t ek8, ifc_t hk8, ifc_t ek9, ifc_t hk9, ifc_t hN, ifc_t a5926, ifc_f a5928, ifc_t a5982, ifc_f c_37_5983, ifc_f c_84_6010, ifc_f c_84_6013, ifc_t c_97_6016, ifc_t (q := Wi x2 0 6 ∨ Wi x2 10 14) (Or.inr a5982), a5985, ifc_f (q := (4 : Int32) < 0) (by decide), ifc_f (q := UNl (4 : Int32).toNatClampNeg x2) (fun h9 => (show False from by have h7 : x2 = 4 ∨ x2 = 0 := h9; rcases h7 with h8 | h8 <;> (first | exact c_84_6010 h8.symm | exact c_84_6013 h8.symm)))]; done) | (simp only [nI_clamp (n := jt) (by omega), ifc_t ekq, ifc_t hkq, ifc_t ek8, ifc_t hk8, ifc_t ek9, ifc_t hk9, ifc_t hN, ifc_t a5926, ifc_f a5928, ifc_t a5982, ifc_f c_37_5983, ifc_f c_84_6010, ifc_f c_84_6013, ifc_t c_97_6016, ifc_t (q := Wi x2 0 6 ∨ Wi x2 10 14) (Or.inr a5982), a5985, ifc_f (q := (4 : Int32) < 0) (by decide), ifc_f (q := UNl (4 : Int32).toNatClampNeg x2) (fun h9 => (show False from by have h7 : x2 = 4 ∨ x2 = 0 := h9; rcases h7 with h8 | h8 <;> (first | exact c_84_6010 h8.symm | exact c_84_6013 h8.symm)))]; rfl))) rfl dX12_taken_111
          · refine lv_istore_n (lv' := [(3, .int 5), (0, .ref h0), (1, .int (nI jt)), (2, .int x2)]) hx hb dX12_taken_70 rfl hl (by decide) rfl (fun ls hl => ?_)
            refine lv_iload_n hx hb dX12_taken_71 rfl (lv_at hl 0 rfl) ?_
            refine lv_if_ge (tgt := 78) hx hb dX12_taken_72 (by decide) (fun _ => ?_) (fun c9 => absurd (by decide) c9)
            refine lv_iload_n hx hb dX12_taken_78 rfl (lv_at hl 0 rfl) ?_
            refine lv_if_lt (tgt := 95) hx hb dX12_taken_79 (by decide) (fun c9 => absurd c9 (by decide)) (fun _ => ?_)
            refine lv_iload_n hx hb dX12_taken_82 rfl (lv_at hl 0 rfl) ?_
            refine lv_iload_n hx hb dX12_taken_83 rfl (lv_at hl 3 rfl) ?_
            refine lv_icmp_eq (tgt := 95) hx hb dX12_taken_84 (by decide) (fun c_84_6017 => ?_) (fun c_84_6017 => ?_)
            · refine lv_iload_n hx hb dX12_taken_95 rfl (lv_at hl 0 rfl) ?_
              refine lv_iload_n hx hb dX12_taken_96 rfl (lv_at hl 3 rfl) ?_
              refine lv_icmp_ne (tgt := 109) hx hb dX12_taken_97 (by decide) (fun c9 => absurd (c_84_6017) c9) (fun _ => ?_)
              refine lv_aload_n hx hb dX12_taken_100 rfl (lv_at hl 1 rfl) ?_
              refine gf_X12_75 hC rfl hK hP 0 rfl rfl dX12_taken_101 ?_
              refine lv_iload_n hx hb dX12_taken_104 rfl (lv_at hl 2 rfl) ?_
              refine ald hC hK hP 3 rfl (vp_in_nI (by omega) (by omega)) (k := jt) (nI_clamp (by omega)) (v := fnsf jt) rfl dX12_taken_105 ?_
              refine lv_goto (tgt := 111) hx hb dX12_taken_106 (by decide) ?_
              exact RP (v := fnsf jt) hC ((by first | rfl | (simp only [nI_clamp (n := jt) (by omega), ifc_t ekq, ifc_t hkq, ifc_t ek8, ifc_t hk8, ifc_t ek9, ifc_t hk9, ifc_t hN, ifc_t a5926, ifc_f a5928, ifc_t a5982, ifc_f c_37_5983, ifc_t c_84_6017, ifc_t (q := Wi x2 0 6 ∨ Wi x2 10 14) (Or.inr a5982), a5985, ifc_f (q := (5 : Int32) < 0) (by decide), ifc_t (q := UNl (5 : Int32).toNatClampNeg x2) (show UNl 5 x2 from Or.inl (c_84_6017.symm))]; done) | (simp only [nI_clamp (n := jt) (by omega), ifc_t ekq, ifc_t hkq, ifc_t ek8, ifc_t hk8, ifc_t ek9, ifc_t hk9, ifc_t hN, ifc_t a5926, ifc_f a5928, ifc_t a5982, ifc_f c_37_5983, ifc_t c_84_6017, ifc_t (q := Wi x2 0 6 ∨ Wi x2 10 14) (Or.inr a5982), a5985, ifc_f (q := (5 : Int32) < 0) (by decide), ifc_t (q := UNl (5 : Int32).toNatClampNeg x2) (show UNl 5 x2 from Or.inl (c_84_6017.symm))]; rfl))) rfl dX12_taken_111
            · refine lv_iload_n hx hb dX12_taken_87 rfl (lv_at hl 0 rfl) ?_
              refine pS hC hK hl (m_above5 l G) si_X12_348 rfl rfl (Nat.le_of_ble_eq_true rfl) ⟨Nat.le_of_ble_eq_true rfl, Nat.le_of_ble_eq_true rfl⟩ ⟨by first | exact Nat.le_of_ble_eq_true rfl | exact Nat.zero_le _, by first | exact Nat.le_of_ble_eq_true rfl | exact Nat.zero_le _⟩ dX12_taken_88 (fun r6018 hr6018 => ?_)
              obtain rfl := hr6018
              refine lv_istore_n (lv' := [(3, .int 4), (0, .ref h0), (1, .int (nI jt)), (2, .int x2)]) hx hb dX12_taken_91 rfl hl (by decide) rfl (fun ls hl => ?_)
              refine lv_goto (tgt := 78) hx hb dX12_taken_92 (by decide) ?_
              refine lv_iload_n hx hb dX12_taken_78 rfl (lv_at hl 0 rfl) ?_
              refine lv_if_lt (tgt := 95) hx hb dX12_taken_79 (by decide) (fun c9 => absurd c9 (by decide)) (fun _ => ?_)
              refine lv_iload_n hx hb dX12_taken_82 rfl (lv_at hl 0 rfl) ?_
              refine lv_iload_n hx hb dX12_taken_83 rfl (lv_at hl 3 rfl) ?_
              refine lv_icmp_eq (tgt := 95) hx hb dX12_taken_84 (by decide) (fun c_84_6020 => ?_) (fun c_84_6020 => ?_)
              · refine lv_iload_n hx hb dX12_taken_95 rfl (lv_at hl 0 rfl) ?_
                refine lv_iload_n hx hb dX12_taken_96 rfl (lv_at hl 3 rfl) ?_
                refine lv_icmp_ne (tgt := 109) hx hb dX12_taken_97 (by decide) (fun c9 => absurd (c_84_6020) c9) (fun _ => ?_)
                refine lv_aload_n hx hb dX12_taken_100 rfl (lv_at hl 1 rfl) ?_
                refine gf_X12_75 hC rfl hK hP 0 rfl rfl dX12_taken_101 ?_
                refine lv_iload_n hx hb dX12_taken_104 rfl (lv_at hl 2 rfl) ?_
                refine ald hC hK hP 3 rfl (vp_in_nI (by omega) (by omega)) (k := jt) (nI_clamp (by omega)) (v := fnsf jt) rfl dX12_taken_105 ?_
                refine lv_goto (tgt := 111) hx hb dX12_taken_106 (by decide) ?_
                exact RP (v := fnsf jt) hC ((by first | rfl | (simp only [nI_clamp (n := jt) (by omega), ifc_t ekq, ifc_t hkq, ifc_t ek8, ifc_t hk8, ifc_t ek9, ifc_t hk9, ifc_t hN, ifc_t a5926, ifc_f a5928, ifc_t a5982, ifc_f c_37_5983, ifc_f c_84_6017, ifc_t c_84_6020, ifc_t (q := Wi x2 0 6 ∨ Wi x2 10 14) (Or.inr a5982), a5985, ifc_f (q := (5 : Int32) < 0) (by decide), ifc_t (q := UNl (5 : Int32).toNatClampNeg x2) (show UNl 5 x2 from Or.inr (Or.inl (c_84_6020.symm)))]; done) | (simp only [nI_clamp (n := jt) (by omega), ifc_t ekq, ifc_t hkq, ifc_t ek8, ifc_t hk8, ifc_t ek9, ifc_t hk9, ifc_t hN, ifc_t a5926, ifc_f a5928, ifc_t a5982, ifc_f c_37_5983, ifc_f c_84_6017, ifc_t c_84_6020, ifc_t (q := Wi x2 0 6 ∨ Wi x2 10 14) (Or.inr a5982), a5985, ifc_f (q := (5 : Int32) < 0) (by decide), ifc_t (q := UNl (5 : Int32).toNatClampNeg x2) (show UNl 5 x2 from Or.inr (Or.inl (c_84_6020.symm)))]; rfl))) rfl dX12_taken_111
              · refine lv_iload_n hx hb dX12_taken_87 rfl (lv_at hl 0 rfl) ?_
                refine pS hC hK hl (m_above4 l G) si_X12_348 rfl rfl (Nat.le_of_ble_eq_true rfl) ⟨Nat.le_of_ble_eq_true rfl, Nat.le_of_ble_eq_true rfl⟩ ⟨by first | exact Nat.le_of_ble_eq_true rfl | exact Nat.zero_le _, by first | exact Nat.le_of_ble_eq_true rfl | exact Nat.zero_le _⟩ dX12_taken_88 (fun r6021 hr6021 => ?_)
                obtain rfl := hr6021
                refine lv_istore_n (lv' := [(3, .int 0), (0, .ref h0), (1, .int (nI jt)), (2, .int x2)]) hx hb dX12_taken_91 rfl hl (by decide) rfl (fun ls hl => ?_)
                refine lv_goto (tgt := 78) hx hb dX12_taken_92 (by decide) ?_
                refine lv_iload_n hx hb dX12_taken_78 rfl (lv_at hl 0 rfl) ?_
                refine lv_if_lt (tgt := 95) hx hb dX12_taken_79 (by decide) (fun c9 => absurd c9 (by decide)) (fun _ => ?_)
                refine lv_iload_n hx hb dX12_taken_82 rfl (lv_at hl 0 rfl) ?_
                refine lv_iload_n hx hb dX12_taken_83 rfl (lv_at hl 3 rfl) ?_
                refine lv_icmp_eq (tgt := 95) hx hb dX12_taken_84 (by decide) (fun c_84_6023 => ?_) (fun c_84_6023 => ?_)
                · refine lv_iload_n hx hb dX12_taken_95 rfl (lv_at hl 0 rfl) ?_
                  refine lv_iload_n hx hb dX12_taken_96 rfl (lv_at hl 3 rfl) ?_
                  refine lv_icmp_ne (tgt := 109) hx hb dX12_taken_97 (by decide) (fun c9 => absurd (c_84_6023) c9) (fun _ => ?_)
                  refine lv_aload_n hx hb dX12_taken_100 rfl (lv_at hl 1 rfl) ?_
                  refine gf_X12_75 hC rfl hK hP 0 rfl rfl dX12_taken_101 ?_
                  refine lv_iload_n hx hb dX12_taken_104 rfl (lv_at hl 2 rfl) ?_
                  refine ald hC hK hP 3 rfl (vp_in_nI (by omega) (by omega)) (k := jt) (nI_clamp (by omega)) (v := fnsf jt) rfl dX12_taken_105 ?_
                  refine lv_goto (tgt := 111) hx hb dX12_taken_106 (by decide) ?_
                  exact RP (v := fnsf jt) hC ((by first | rfl | (simp only [nI_clamp (n := jt) (by omega), ifc_t ekq, ifc_t hkq, ifc_t ek8, ifc_t hk8, ifc_t ek9, ifc_t hk9, ifc_t hN, ifc_t a5926, ifc_f a5928, ifc_t a5982, ifc_f c_37_5983, ifc_f c_84_6017, ifc_f c_84_6020, ifc_t c_84_6023, ifc_t (q := Wi x2 0 6 ∨ Wi x2 10 14) (Or.inr a5982), a5985, ifc_f (q := (5 : Int32) < 0) (by decide), ifc_t (q := UNl (5 : Int32).toNatClampNeg x2) (show UNl 5 x2 from Or.inr (Or.inr (c_84_6023.symm)))]; done) | (simp only [nI_clamp (n := jt) (by omega), ifc_t ekq, ifc_t hkq, ifc_t ek8, ifc_t hk8, ifc_t ek9, ifc_t hk9, ifc_t hN, ifc_t a5926, ifc_f a5928, ifc_t a5982, ifc_f c_37_5983, ifc_f c_84_6017, ifc_f c_84_6020, ifc_t c_84_6023, ifc_t (q := Wi x2 0 6 ∨ Wi x2 10 14) (Or.inr a5982), a5985, ifc_f (q := (5 : Int32) < 0) (by decide), ifc_t (q := UNl (5 : Int32).toNatClampNeg x2) (show UNl 5 x2 from Or.inr (Or.inr (c_84_6023.symm)))]; rfl))) rfl dX12_taken_111
                · refine lv_iload_n hx hb dX12_taken_87 rfl (lv_at hl 0 rfl) ?_
                  refine pS hC hK hl (m_above0 l G) si_X12_348 rfl rfl (Nat.le_of_ble_eq_true rfl) ⟨Nat.le_of_ble_eq_true rfl, Nat.le_of_ble_eq_true rfl⟩ ⟨by first | exact Nat.le_of_ble_eq_true rfl | exact Nat.zero_le _, by first | exact Nat.le_of_ble_eq_true rfl | exact Nat.zero_le _⟩ dX12_taken_88 (fun r6024 hr6024 => ?_)
                  obtain rfl := hr6024
                  refine lv_istore_n (lv' := [(3, .int (-1)), (0, .ref h0), (1, .int (nI jt)), (2, .int x2)]) hx hb dX12_taken_91 rfl hl (by decide) rfl (fun ls hl => ?_)
                  refine lv_goto (tgt := 78) hx hb dX12_taken_92 (by decide) ?_
                  refine lv_iload_n hx hb dX12_taken_78 rfl (lv_at hl 0 rfl) ?_
                  refine lv_if_lt (tgt := 95) hx hb dX12_taken_79 (by decide) (fun _ => ?_) (fun c9 => absurd (by decide) c9)
                  refine lv_iload_n hx hb dX12_taken_95 rfl (lv_at hl 0 rfl) ?_
                  refine lv_iload_n hx hb dX12_taken_96 rfl (lv_at hl 3 rfl) ?_
                  refine lv_icmp_ne (tgt := 109) hx hb dX12_taken_97 (by decide) (fun c_97_6026 => ?_) (fun c_97_6026 => ?_)
                  · refine lv_bipush (v := (-13)) hx hb dX12_taken_109 (by decide) ?_
                    exact RP (v := (-13)) hC ((by first | rfl | (simp only [nI_clamp (n := jt) (by omega), ifc_t ekq, ifc_t hkq, ifc_t ek8, ifc_t hk8, ifc_t ek9, ifc_t hk9, ifc_t hN, ifc_t a5926, ifc_f a5928, ifc_t a5982, ifc_f c_37_5983, ifc_f c_84_6017, ifc_f c_84_6020, ifc_f c_84_6023, ifc_f c_97_6026, ifc_t (q := Wi x2 0 6 ∨ Wi x2 10 14) (Or.inr a5982), a5985, ifc_f (q := (5 : Int32) < 0) (by decide), ifc_f (q := UNl (5 : Int32).toNatClampNeg x2) (fun h9 => (show False from by have h7 : x2 = 5 ∨ x2 = 4 ∨ x2 = 0 := h9; rcases h7 with h8 | h8 | h8 <;> (first | exact c_84_6017 h8.symm | exact c_84_6020 h8.symm | exact c_84_6023 h8.symm)))]; done) | (simp only [nI_clamp (n := jt) (by omega), ifc_t ekq, ifc_t hkq, ifc_t ek8, ifc_t hk8, ifc_t ek9, ifc_t hk9, ifc_t hN, ifc_t a5926, ifc_f a5928, ifc_t a5982, ifc_f c_37_5983, ifc_f c_84_6017, ifc_f c_84_6020, ifc_f c_84_6023, ifc_f c_97_6026, ifc_t (q := Wi x2 0 6 ∨ Wi x2 10 14) (Or.inr a5982), a5985, ifc_f (q := (5 : Int32) < 0) (by decide), ifc_f (q := UNl (5 : Int32).toNatClampNeg x2) (fun h9 => (show False from by have h7 : x2 = 5 ∨ x2 = 4 ∨ x2 = 0 := h9; rcases h7 with h8 | h8 | h8 <;> (first | exact c_84_6017 h8.symm | exact c_84_6020 h8.symm | exact c_84_6023 h8.symm)))]; rfl))) rfl dX12_taken_111
                  · refine lv_aload_n hx hb dX12_taken_100 rfl (lv_at hl 1 rfl) ?_
                    refine gf_X12_75 hC rfl hK hP 0 rfl rfl dX12_taken_101 ?_
                    refine lv_iload_n hx hb dX12_taken_104 rfl (lv_at hl 2 rfl) ?_
                    refine ald hC hK hP 3 rfl (vp_in_nI (by omega) (by omega)) (k := jt) (nI_clamp (by omega)) (v := fnsf jt) rfl dX12_taken_105 ?_
                    refine lv_goto (tgt := 111) hx hb dX12_taken_106 (by decide) ?_
                    exact RP (v := fnsf jt) hC ((by first | rfl | (simp only [nI_clamp (n := jt) (by omega), ifc_t ekq, ifc_t hkq, ifc_t ek8, ifc_t hk8, ifc_t ek9, ifc_t hk9, ifc_t hN, ifc_t a5926, ifc_f a5928, ifc_t a5982, ifc_f c_37_5983, ifc_f c_84_6017, ifc_f c_84_6020, ifc_f c_84_6023, ifc_t c_97_6026, ifc_t (q := Wi x2 0 6 ∨ Wi x2 10 14) (Or.inr a5982), a5985, ifc_f (q := (5 : Int32) < 0) (by decide), ifc_f (q := UNl (5 : Int32).toNatClampNeg x2) (fun h9 => (show False from by have h7 : x2 = 5 ∨ x2 = 4 ∨ x2 = 0 := h9; rcases h7 with h8 | h8 | h8 <;> (first | exact c_84_6017 h8.symm | exact c_84_6020 h8.symm | exact c_84_6023 h8.symm)))]; done) | (simp only [nI_clamp (n := jt) (by omega), ifc_t ekq, ifc_t hkq, ifc_t ek8, ifc_t hk8, ifc_t ek9, ifc_t hk9, ifc_t hN, ifc_t a5926, ifc_f a5928, ifc_t a5982, ifc_f c_37_5983, ifc_f c_84_6017, ifc_f c_84_6020, ifc_f c_84_6023, ifc_t c_97_6026, ifc_t (q := Wi x2 0 6 ∨ Wi x2 10 14) (Or.inr a5982), a5985, ifc_f (q := (5 : Int32) < 0) (by decide), ifc_f (q := UNl (5 : Int32).toNatClampNeg x2) (fun h9 => (show False from by have h7 : x2 = 5 ∨ x2 = 4 ∨ x2 = 0 := h9; rcases h7 with h8 | h8 | h8 <;> (first | exact c_84_6017 h8.symm | exact c_84_6020 h8.symm | exact c_84_6023 h8.symm)))]; rfl))) rfl dX12_taken_111
          · refine lv_istore_n (lv' := [(3, .int 6), (0, .ref h0), (1, .int (nI jt)), (2, .int x2)]) hx hb dX12_taken_70 rfl hl (by decide) rfl (fun ls hl => ?_)
            refine lv_iload_n hx hb dX12_taken_71 rfl (lv_at hl 0 rfl) ?_
            refine lv_if_ge (tgt := 78) hx hb dX12_taken_72 (by decide) (fun _ => ?_) (fun c9 => absurd (by decide) c9)
            refine lv_iload_n hx hb dX12_taken_78 rfl (lv_at hl 0 rfl) ?_
            refine lv_if_lt (tgt := 95) hx hb dX12_taken_79 (by decide) (fun c9 => absurd c9 (by decide)) (fun _ => ?_)
            refine lv_iload_n hx hb dX12_taken_82 rfl (lv_at hl 0 rfl) ?_
            refine lv_iload_n hx hb dX12_taken_83 rfl (lv_at hl 3 rfl) ?_
            refine lv_icmp_eq (tgt := 95) hx hb dX12_taken_84 (by decide) (fun c_84_6027 => ?_) (fun c_84_6027 => ?_)
            · refine lv_iload_n hx hb dX12_taken_95 rfl (lv_at hl 0 rfl) ?_
              refine lv_iload_n hx hb dX12_taken_96 rfl (lv_at hl 3 rfl) ?_
              refine lv_icmp_ne (tgt := 109) hx hb dX12_taken_97 (by decide) (fun c9 => absurd (c_84_6027) c9) (fun _ => ?_)
              refine lv_aload_n hx hb dX12_taken_100 rfl (lv_at hl 1 rfl) ?_
              refine gf_X12_75 hC rfl hK hP 0 rfl rfl dX12_taken_101 ?_
              refine lv_iload_n hx hb dX12_taken_104 rfl (lv_at hl 2 rfl) ?_
              refine ald hC hK hP 3 rfl (vp_in_nI (by omega) (by omega)) (k := jt) (nI_clamp (by omega)) (v := fnsf jt) rfl dX12_taken_105 ?_
              refine lv_goto (tgt := 111) hx hb dX12_taken_106 (by decide) ?_
              exact RP (v := fnsf jt) hC ((by first | rfl | (simp only [nI_clamp (n := jt) (by omega), ifc_t ekq, ifc_t hkq, ifc_t ek8, ifc_t hk8, ifc_t ek9, ifc_t hk9, ifc_t hN, ifc_t a5926, ifc_f a5928, ifc_t a5982, ifc_f c_37_5983, ifc_t c_84_6027, ifc_t (q := Wi x2 0 6 ∨ Wi x2 10 14) (Or.inr a5982), a5985, ifc_f (q := (6 : Int32) < 0) (by decide), ifc_t (q := UNl (6 : Int32).toNatClampNeg x2) (show UNl 6 x2 from Or.inl (c_84_6027.symm))]; done) | (simp only [nI_clamp (n := jt) (by omega), ifc_t ekq, ifc_t hkq, ifc_t ek8, ifc_t hk8, ifc_t ek9, ifc_t hk9, ifc_t hN, ifc_t a5926, ifc_f a5928, ifc_t a5982, ifc_f c_37_5983, ifc_t c_84_6027, ifc_t (q := Wi x2 0 6 ∨ Wi x2 10 14) (Or.inr a5982), a5985, ifc_f (q := (6 : Int32) < 0) (by decide), ifc_t (q := UNl (6 : Int32).toNatClampNeg x2) (show UNl 6 x2 from Or.inl (c_84_6027.symm))]; rfl))) rfl dX12_taken_111
            · refine lv_iload_n hx hb dX12_taken_87 rfl (lv_at hl 0 rfl) ?_
              refine pS hC hK hl (m_above6 l G) si_X12_348 rfl rfl (Nat.le_of_ble_eq_true rfl) ⟨Nat.le_of_ble_eq_true rfl, Nat.le_of_ble_eq_true rfl⟩ ⟨by first | exact Nat.le_of_ble_eq_true rfl | exact Nat.zero_le _, by first | exact Nat.le_of_ble_eq_true rfl | exact Nat.zero_le _⟩ dX12_taken_88 (fun r6028 hr6028 => ?_)
              obtain rfl := hr6028
              refine lv_istore_n (lv' := [(3, .int 0), (0, .ref h0), (1, .int (nI jt)), (2, .int x2)]) hx hb dX12_taken_91 rfl hl (by decide) rfl (fun ls hl => ?_)
              refine lv_goto (tgt := 78) hx hb dX12_taken_92 (by decide) ?_
              refine lv_iload_n hx hb dX12_taken_78 rfl (lv_at hl 0 rfl) ?_
              refine lv_if_lt (tgt := 95) hx hb dX12_taken_79 (by decide) (fun c9 => absurd c9 (by decide)) (fun _ => ?_)
              refine lv_iload_n hx hb dX12_taken_82 rfl (lv_at hl 0 rfl) ?_
              refine lv_iload_n hx hb dX12_taken_83 rfl (lv_at hl 3 rfl) ?_
              refine lv_icmp_eq (tgt := 95) hx hb dX12_taken_84 (by decide) (fun c_84_6030 => ?_) (fun c_84_6030 => ?_)
              · refine lv_iload_n hx hb dX12_taken_95 rfl (lv_at hl 0 rfl) ?_
                refine lv_iload_n hx hb dX12_taken_96 rfl (lv_at hl 3 rfl) ?_
                refine lv_icmp_ne (tgt := 109) hx hb dX12_taken_97 (by decide) (fun c9 => absurd (c_84_6030) c9) (fun _ => ?_)
                refine lv_aload_n hx hb dX12_taken_100 rfl (lv_at hl 1 rfl) ?_
                refine gf_X12_75 hC rfl hK hP 0 rfl rfl dX12_taken_101 ?_
                refine lv_iload_n hx hb dX12_taken_104 rfl (lv_at hl 2 rfl) ?_
                refine ald hC hK hP 3 rfl (vp_in_nI (by omega) (by omega)) (k := jt) (nI_clamp (by omega)) (v := fnsf jt) rfl dX12_taken_105 ?_
                refine lv_goto (tgt := 111) hx hb dX12_taken_106 (by decide) ?_
                exact RP (v := fnsf jt) hC ((by first | rfl | (simp only [nI_clamp (n := jt) (by omega), ifc_t ekq, ifc_t hkq, ifc_t ek8, ifc_t hk8, ifc_t ek9, ifc_t hk9, ifc_t hN, ifc_t a5926, ifc_f a5928, ifc_t a5982, ifc_f c_37_5983, ifc_f c_84_6027, ifc_t c_84_6030, ifc_t (q := Wi x2 0 6 ∨ Wi x2 10 14) (Or.inr a5982), a5985, ifc_f (q := (6 : Int32) < 0) (by decide), ifc_t (q := UNl (6 : Int32).toNatClampNeg x2) (show UNl 6 x2 from Or.inr (c_84_6030.symm))]; done) | (simp only [nI_clamp (n := jt) (by omega), ifc_t ekq, ifc_t hkq, ifc_t ek8, ifc_t hk8, ifc_t ek9, ifc_t hk9, ifc_t hN, ifc_t a5926, ifc_f a5928, ifc_t a5982, ifc_f c_37_5983, ifc_f c_84_6027, ifc_t c_84_6030, ifc_t (q := Wi x2 0 6 ∨ Wi x2 10 14) (Or.inr a5982), a5985, ifc_f (q := (6 : Int32) < 0) (by decide), ifc_t (q := UNl (6 : Int32).toNatClampNeg x2) (show UNl 6 x2 from Or.inr (c_84_6030.symm))]; rfl))) rfl dX12_taken_111
              · refine lv_iload_n hx hb dX12_taken_87 rfl (lv_at hl 0 rfl) ?_
                refine pS hC hK hl (m_above0 l G) si_X12_348 rfl rfl (Nat.le_of_ble_eq_true rfl) ⟨Nat.le_of_ble_eq_true rfl, Nat.le_of_ble_eq_true rfl⟩ ⟨by first | exact Nat.le_of_ble_eq_true rfl | exact Nat.zero_le _, by first | exact Nat.le_of_ble_eq_true rfl | exact Nat.zero_le _⟩ dX12_taken_88 (fun r6031 hr6031 => ?_)
                obtain rfl := hr6031
                refine lv_istore_n (lv' := [(3, .int (-1)), (0, .ref h0), (1, .int (nI jt)), (2, .int x2)]) hx hb dX12_taken_91 rfl hl (by decide) rfl (fun ls hl => ?_)
                refine lv_goto (tgt := 78) hx hb dX12_taken_92 (by decide) ?_
                refine lv_iload_n hx hb dX12_taken_78 rfl (lv_at hl 0 rfl) ?_
                refine lv_if_lt (tgt := 95) hx hb dX12_taken_79 (by decide) (fun _ => ?_) (fun c9 => absurd (by decide) c9)
                refine lv_iload_n hx hb dX12_taken_95 rfl (lv_at hl 0 rfl) ?_
                refine lv_iload_n hx hb dX12_taken_96 rfl (lv_at hl 3 rfl) ?_
                refine lv_icmp_ne (tgt := 109) hx hb dX12_taken_97 (by decide) (fun c_97_6033 => ?_) (fun c_97_6033 => ?_)
                · refine lv_bipush (v := (-13)) hx hb dX12_taken_109 (by decide) ?_
                  exact RP (v := (-13)) hC ((by first | rfl | (simp only [nI_clamp (n := jt) (by omega), ifc_t ekq, ifc_t hkq, ifc_t ek8, ifc_t hk8, ifc_t ek9, ifc_t hk9, ifc_t hN, ifc_t a5926, ifc_f a5928, ifc_t a5982, ifc_f c_37_5983, ifc_f c_84_6027, ifc_f c_84_6030, ifc_f c_97_6033, ifc_t (q := Wi x2 0 6 ∨ Wi x2 10 14) (Or.inr a5982), a5985, ifc_f (q := (6 : Int32) < 0) (by decide), ifc_f (q := UNl (6 : Int32).toNatClampNeg x2) (fun h9 => (show False from by have h7 : x2 = 6 ∨ x2 = 0 := h9; rcases h7 with h8 | h8 <;> (first | exact c_84_6027 h8.symm | exact c_84_6030 h8.symm)))]; done) | (simp only [nI_clamp (n := jt) (by omega), ifc_t ekq, ifc_t hkq, ifc_t ek8, ifc_t hk8, ifc_t ek9, ifc_t hk9, ifc_t hN, ifc_t a5926, ifc_f a5928, ifc_t a5982, ifc_f c_37_5983, ifc_f c_84_6027, ifc_f c_84_6030, ifc_f c_97_6033, ifc_t (q := Wi x2 0 6 ∨ Wi x2 10 14) (Or.inr a5982), a5985, ifc_f (q := (6 : Int32) < 0) (by decide), ifc_f (q := UNl (6 : Int32).toNatClampNeg x2) (fun h9 => (show False from by have h7 : x2 = 6 ∨ x2 = 0 := h9; rcases h7 with h8 | h8 <;> (first | exact c_84_6027 h8.symm | exact c_84_6030 h8.symm)))]; rfl))) rfl dX12_taken_111
                · refine lv_aload_n hx hb dX12_taken_100 rfl (lv_at hl 1 rfl) ?_
                  refine gf_X12_75 hC rfl hK hP 0 rfl rfl dX12_taken_101 ?_
                  refine lv_iload_n hx hb dX12_taken_104 rfl (lv_at hl 2 rfl) ?_
                  refine ald hC hK hP 3 rfl (vp_in_nI (by omega) (by omega)) (k := jt) (nI_clamp (by omega)) (v := fnsf jt) rfl dX12_taken_105 ?_
                  refine lv_goto (tgt := 111) hx hb dX12_taken_106 (by decide) ?_
                  exact RP (v := fnsf jt) hC ((by first | rfl | (simp only [nI_clamp (n := jt) (by omega), ifc_t ekq, ifc_t hkq, ifc_t ek8, ifc_t hk8, ifc_t ek9, ifc_t hk9, ifc_t hN, ifc_t a5926, ifc_f a5928, ifc_t a5982, ifc_f c_37_5983, ifc_f c_84_6027, ifc_f c_84_6030, ifc_t c_97_6033, ifc_t (q := Wi x2 0 6 ∨ Wi x2 10 14) (Or.inr a5982), a5985, ifc_f (q := (6 : Int32) < 0) (by decide), ifc_f (q := UNl (6 : Int32).toNatClampNeg x2) (fun h9 => (show False from by have h7 : x2 = 6 ∨ x2 = 0 := h9; rcases h7 with h8 | h8 <;> (first | exact c_84_6027 h8.symm | exact c_84_6030 h8.symm)))]; done) | (simp only [nI_clamp (n := jt) (by omega), ifc_t ekq, ifc_t hkq, ifc_t ek8, ifc_t hk8, ifc_t ek9, ifc_t hk9, ifc_t hN, ifc_t a5926, ifc_f a5928, ifc_t a5982, ifc_f c_37_5983, ifc_f c_84_6027, ifc_f c_84_6030, ifc_t c_97_6033, ifc_t (q := Wi x2 0 6 ∨ Wi x2 10 14) (Or.inr a5982), a5985, ifc_f (q := (6 : Int32) < 0) (by decide), ifc_f (q := UNl (6 : Int32).toNatClampNeg x2) (fun h9 => (show False from by have h7 : x2 = 6 ∨ x2 = 0 := h9; rcases h7 with h8 | h8 <;> (first | exact c_84_6027 h8.symm | exact c_84_6030 h8.symm)))]; rfl))) rfl dX12_taken_111
        · refine lv_iload_n hx hb dX12_taken_40 rfl (lv_at hl 2 rfl) ?_
          refine lv_bipush (v := 10) hx hb dX12_taken_41 (by decide) ?_
          refine lv_isub hx hb dX12_taken_43 ?_
          refine lv_aload_n hx hb dX12_taken_44 rfl (lv_at hl 0 rfl) ?_
          refine gf_X12_75 hC rfl hK hP 0 rfl rfl dX12_taken_45 ?_
          refine lv_iload_n hx hb dX12_taken_48 rfl (lv_at hl 1 rfl) ?_
          refine ald hC hK hP 3 rfl (vp_in_nI (by omega) (by omega)) (k := jt) (nI_clamp (by omega)) (v := fnsf jt) rfl dX12_taken_49 ?_
          refine lv_icmp_ne (tgt := 62) hx hb dX12_taken_50 (by decide) (fun c_50_6034 => ?_) (fun c_50_6034 => ?_)
          · refine lv_bipush (v := (-13)) hx hb dX12_taken_62 (by decide) ?_
            exact RP (v := (-13)) hC ((by first | rfl | (simp only [nI_clamp (n := jt) (by omega), ifc_t ekq, ifc_t hkq, ifc_t ek8, ifc_t hk8, ifc_t ek9, ifc_t hk9, ifc_t hN, ifc_t a5926, ifc_f a5928, ifc_t a5982, ifc_t c_37_5983, ifc_f c_50_6034, ifc_t (q := Wi x2 0 6 ∨ Wi x2 10 14) (Or.inr a5982)]; done) | (simp only [nI_clamp (n := jt) (by omega), ifc_t ekq, ifc_t hkq, ifc_t ek8, ifc_t hk8, ifc_t ek9, ifc_t hk9, ifc_t hN, ifc_t a5926, ifc_f a5928, ifc_t a5982, ifc_t c_37_5983, ifc_f c_50_6034, ifc_t (q := Wi x2 0 6 ∨ Wi x2 10 14) (Or.inr a5982)]; rfl))) rfl dX12_taken_64
          · refine lv_aload_n hx hb dX12_taken_53 rfl (lv_at hl 0 rfl) ?_
            refine gf_X12_78 hC rfl hK hP 0 rfl rfl dX12_taken_54 ?_
            refine lv_iload_n hx hb dX12_taken_57 rfl (lv_at hl 1 rfl) ?_
            refine ald hC hK hP 4 rfl (vp_in_nI (by omega) (by omega)) (k := jt) (nI_clamp (by omega)) (v := fnss jt) rfl dX12_taken_58 ?_
            refine lv_goto (tgt := 64) hx hb dX12_taken_59 (by decide) ?_
            exact RP (v := fnss jt) hC ((by first | rfl | (simp only [nI_clamp (n := jt) (by omega), ifc_t ekq, ifc_t hkq, ifc_t ek8, ifc_t hk8, ifc_t ek9, ifc_t hk9, ifc_t hN, ifc_t a5926, ifc_f a5928, ifc_t a5982, ifc_t c_37_5983, ifc_t c_50_6034, ifc_t (q := Wi x2 0 6 ∨ Wi x2 10 14) (Or.inr a5982)]; done) | (simp only [nI_clamp (n := jt) (by omega), ifc_t ekq, ifc_t hkq, ifc_t ek8, ifc_t hk8, ifc_t ek9, ifc_t hk9, ifc_t hN, ifc_t a5926, ifc_f a5928, ifc_t a5982, ifc_t c_37_5983, ifc_t c_50_6034, ifc_t (q := Wi x2 0 6 ∨ Wi x2 10 14) (Or.inr a5982)]; rfl))) rfl dX12_taken_64
      · refine lv_if_ne (tgt := 30) hx hb dX12_taken_25 (by decide) (fun c9 => absurd (by decide) c9) (fun _ => ?_)
        refine lv_iconst (v := (-1)) hx hb dX12_taken_28 (by decide) ?_
        exact RP (v := (-1)) hC ((by first | rfl | (simp only [ifc_t ekq, ifc_t hkq, ifc_t ek8, ifc_t hk8, ifc_t ek9, ifc_t hk9, ifc_t hN, ifc_t a5926, ifc_f a5928, ifc_f a5982, ifc_f (q := Wi x2 0 6 ∨ Wi x2 10 14) (not_or.mpr ⟨a5928, a5982⟩)]; done) | (simp only [ifc_t ekq, ifc_t hkq, ifc_t ek8, ifc_t hk8, ifc_t ek9, ifc_t hk9, ifc_t hN, ifc_t a5926, ifc_f a5928, ifc_f a5982, ifc_f (q := Wi x2 0 6 ∨ Wi x2 10 14) (not_or.mpr ⟨a5928, a5982⟩)]; rfl))) rfl dX12_taken_29
  · refine lv_if_eq (tgt := 28) hx hb dX12_taken_4 (by decide) (fun _ => ?_) (fun c9 => absurd (by decide) c9)
    refine lv_iconst (v := (-1)) hx hb dX12_taken_28 (by decide) ?_
    exact RP (v := (-1)) hC ((by first | rfl | (simp only [ifc_t ekq, ifc_t hkq, ifc_t ek8, ifc_t hk8, ifc_t ek9, ifc_t hk9, ifc_t hN, ifc_f a5926]; done) | (simp only [ifc_t ekq, ifc_t hkq, ifc_t ek8, ifc_t hk8, ifc_t ek9, ifc_t hk9, ifc_t hN, ifc_f a5926]; rfl))) rfl dX12_taken_29
set_option maxHeartbeats 4000000 in
set_option maxRecDepth 100000 in
theorem m_began (l : Launch) (G : GG) (h0 : Nat) (bo : Int32) (nw : Nat) (nk : Nat) (mhasKept : Int32) (nt : Nat) (mtaped : Int32) (nr : Nat) (mrowMany : Int32) (mroundOf : Int32) (mroundFrom : Int32) (mouts : Int32) (nm : Nat) (mfromHour : Int32) (mtoHour : Int32) (ns : Nat) (mfrom : Int32) (mto : Int32) (msort : Int32) (misFault : Int32) (mdeep : Int32) (mcoded : Int32) (mlines : Int32) (nl : Nat) (nc : Nat) (nF : Nat) (np : Nat) (ntr : Nat) (nb : Nat) (mbestCost : Int32) (nso : Nat) (nsi : Nat) (nit : Nat) (nsh : Nat) (nsf : Nat) (nss : Nat) (nrc : Nat) (jr : Nat) (mdealer : Int32) (mnumber : Int32) (mwhose : Int32) (msize : Int32) (misParted : Int32) (fnrc : Nat → Int32) (hjr : jr ≤ 30) : MV l G yX12_began cX12_began 2 1 0 0 [.ref h0, .int bo] [(h0, .inr (12, [.ref nw, .ref nk, .int mhasKept, .ref nt, .int mtaped, .ref nr, .int mrowMany, .int mroundOf, .int mroundFrom, .int mouts, .ref nm, .int mfromHour, .int mtoHour, .ref ns, .int mfrom, .int mto, .int msort, .int misFault, .int mdeep, .int mcoded, .int mlines, .ref nl, .ref nc, .ref nF, .ref np, .ref ntr, .ref nb, .int mbestCost, .ref nso, .ref nsi, .ref nit, .ref nsh, .ref nsf, .ref nss, .ref nrc, .int (nI jr), .int mdealer, .int mnumber, .int mwhose, .int msize, .int misParted])), (nrc, .inl (G.2.1, 30, .inl fnrc))] (fun u : Nat × (Nat → Int32) => u.1 ≤ 30) (fun u : Nat × (Nat → Int32) => [(h0, .inr (12, [.ref nw, .ref nk, .int mhasKept, .ref nt, .int mtaped, .ref nr, .int mrowMany, .int mroundOf, .int mroundFrom, .int mouts, .ref nm, .int mfromHour, .int mtoHour, .ref ns, .int mfrom, .int mto, .int msort, .int misFault, .int mdeep, .int mcoded, .int mlines, .ref nl, .ref nc, .ref nF, .ref np, .ref ntr, .ref nb, .int mbestCost, .ref nso, .ref nsi, .ref nit, .ref nsh, .ref nsf, .ref nss, .ref nrc, .int (nI u.1), .int mdealer, .int mnumber, .int mwhose, .int msize, .int misParted])), (nrc, .inl (G.2.1, 30, .inl u.2))]) := by
  refine MV.start (by decide +kernel) (Nat.le_of_ble_eq_true rfl) ?_
  intro p e s m below meth c A ls hC hK hP hD hS hA hl
  have hl : lv_has ls 2 [(0, .ref h0), (1, .int bo)] := hl
  obtain ⟨hx, hb, hr, hml, hB, hown, hlocks, hnm⟩ := id hC
  refine lv_aload_n hx hb dX12_began_0 rfl (lv_at hl 0 rfl) ?_
  refine gf_X12_351 hC rfl hK hP 0 rfl rfl dX12_began_1 ?_
  refine lv_bipush (v := 30) hx hb dX12_began_4 (by decide) ?_
  refine lv_icmp_ge (tgt := 29) hx hb dX12_began_6 (by decide) (fun c_6_6035 => ?_) (fun c_6_6035 => ?_)
  · exact RV hC hP hD hS [0, 1] (jr, fnrc) rfl rfl (by decide) (by omega) dX12_began_29
  · have hjr9 := nge_nat (R := 30) (k := jr) (by decide) (by omega) c_6_6035
    refine lv_aload_n hx hb dX12_began_9 rfl (lv_at hl 0 rfl) ?_
    refine gf_X12_81 hC rfl hK hP 0 rfl rfl dX12_began_10 ?_
    refine lv_aload_n hx hb dX12_began_13 rfl (lv_at hl 0 rfl) ?_
    refine gf_X12_351 hC rfl hK hP 0 rfl rfl dX12_began_14 ?_
    refine lv_iload_n hx hb dX12_began_17 rfl (lv_at hl 1 rfl) ?_
    refine ast hC hK hP hD hS 1 (ws' := [(h0, .inr (12, [.ref nw, .ref nk, .int mhasKept, .ref nt, .int mtaped, .ref nr, .int mrowMany, .int mroundOf, .int mroundFrom, .int mouts, .ref nm, .int mfromHour, .int mtoHour, .ref ns, .int mfrom, .int mto, .int msort, .int misFault, .int mdeep, .int mcoded, .int mlines, .ref nl, .ref nc, .ref nF, .ref np, .ref ntr, .ref nb, .int mbestCost, .ref nso, .ref nsi, .ref nit, .ref nsh, .ref nsf, .ref nss, .ref nrc, .int (nI jr), .int mdealer, .int mnumber, .int mwhose, .int msize, .int misParted])), (nrc, .inl (G.2.1, 30, .inl (upd fnrc jr bo)))]) rfl (vp_in_nI (by omega) (by omega)) (k := jr) (nI_clamp (by omega)) (rfl) dX12_began_18 (fun H locs hP hD hS => ?_)
    refine lv_aload_n hx hb dX12_began_19 rfl (lv_at hl 0 rfl) ?_
    refine lv_dup hx hb dX12_began_20 rfl ?_
    refine gf_X12_351 hC rfl hK hP 0 rfl rfl dX12_began_21 ?_
    refine lv_iconst (v := 1) hx hb dX12_began_24 (by decide) ?_
    refine lv_iadd hx hb dX12_began_25 ?_
    refine eqi (x1 := nI (jr + 1)) (nI_add jr 1) ?_
    refine pf_X12_351 hC rfl hK hP hD hS 0 (ws' := [(h0, .inr (12, [.ref nw, .ref nk, .int mhasKept, .ref nt, .int mtaped, .ref nr, .int mrowMany, .int mroundOf, .int mroundFrom, .int mouts, .ref nm, .int mfromHour, .int mtoHour, .ref ns, .int mfrom, .int mto, .int msort, .int misFault, .int mdeep, .int mcoded, .int mlines, .ref nl, .ref nc, .ref nF, .ref np, .ref ntr, .ref nb, .int mbestCost, .ref nso, .ref nsi, .ref nit, .ref nsh, .ref nsf, .ref nss, .ref nrc, .int (nI (jr + 1)), .int mdealer, .int mnumber, .int mwhose, .int msize, .int misParted])), (nrc, .inl (G.2.1, 30, .inl (upd fnrc jr bo)))]) rfl (Nat.le_of_ble_eq_true rfl) rfl rfl rfl dX12_began_26 (fun H locs hP hD hS => ?_)
    exact RV hC hP hD hS [0, 1] ((jr + 1), upd fnrc jr bo) rfl rfl (by decide) (by omega) dX12_began_29
set_option maxHeartbeats 4000000 in
set_option maxRecDepth 100000 in
theorem m_body00 (l : Launch) (G : GG) (h0 : Nat) (xx : Int32) (nw : Nat) (nk : Nat) (mhasKept : Int32) (nt : Nat) (mtaped : Int32) (nr : Nat) (mrowMany : Int32) (mroundOf : Int32) (mroundFrom : Int32) (mouts : Int32) (nm : Nat) (mfromHour : Int32) (mtoHour : Int32) (ns : Nat) (mfrom : Int32) (mto : Int32) (msort : Int32) (misFault : Int32) (mdeep : Int32) (mcoded : Int32) (mlines : Int32) (nl : Nat) (nc : Nat) (nF : Nat) (np : Nat) (ntr : Nat) (nb : Nat) (mbestCost : Int32) (nso : Nat) (nsi : Nat) (nit : Nat) (nsh : Nat) (nsf : Nat) (nss : Nat) (nrc : Nat) (jr : Nat) (jd : Nat) (mnumber : Int32) (mwhose : Int32) (msize : Int32) (misParted : Int32) (fnrc : Nat → Int32) (hjr : jr ≤ 30) (hjd : jd < 7) : MI l G yX12_body cX12_body 6 (some .int) 3 0 0 [.ref h0, .int 0, .int 0, .int xx] [(h0, .inr (12, [.ref nw, .ref nk, .int mhasKept, .ref nt, .int mtaped, .ref nr, .int mrowMany, .int mroundOf, .int mroundFrom, .int mouts, .ref nm, .int mfromHour, .int mtoHour, .ref ns, .int mfrom, .int mto, .int msort, .int misFault, .int mdeep, .int mcoded, .int mlines, .ref nl, .ref nc, .ref nF, .ref np, .ref ntr, .ref nb, .int mbestCost, .ref nso, .ref nsi, .ref nit, .ref nsh, .ref nsf, .ref nss, .ref nrc, .int (nI jr), .int (nI jd), .int mnumber, .int mwhose, .int msize, .int misParted])), (nrc, .inl (G.2.1, 30, .inl fnrc))] (fun (r : Int32) (u : Nat × Int32 × (Nat → Int32)) => (True) ∧ (u.1 ≤ 30)) (fun u : Nat × Int32 × (Nat → Int32) => [(h0, .inr (12, [.ref nw, .ref nk, .int mhasKept, .ref nt, .int mtaped, .ref nr, .int mrowMany, .int mroundOf, .int mroundFrom, .int mouts, .ref nm, .int mfromHour, .int mtoHour, .ref ns, .int mfrom, .int mto, .int msort, .int misFault, .int mdeep, .int mcoded, .int mlines, .ref nl, .ref nc, .ref nF, .ref np, .ref ntr, .ref nb, .int mbestCost, .ref nso, .ref nsi, .ref nit, .ref nsh, .ref nsf, .ref nss, .ref nrc, .int (nI u.1), .int (nI jd), .int mnumber, .int mwhose, .int msize, .int u.2.1])), (nrc, .inl (G.2.1, 30, .inl u.2.2))]) := by
  refine MI.start (by decide +kernel) (Nat.le_of_ble_eq_true rfl) ?_
  intro p e s m below meth c A ls hC hK hP hD hS hA hl
  have hl : lv_has ls 6 [(0, .ref h0), (1, .int 0), (2, .int 0), (3, .int xx)] := hl
  obtain ⟨hx, hb, hr, hml, hB, hown, hlocks, hnm⟩ := id hC
  refine lv_iconst (v := 4) hx hb dX12_body_0 (by decide) ?_
  refine lv_iload_n hx hb dX12_body_1 rfl (lv_at hl 1 rfl) ?_
  refine lv_imul hx hb dX12_body_2 ?_
  refine eqi (x1 := 0) (by decide) ?_
  refine lv_iload_n hx hb dX12_body_3 rfl (lv_at hl 2 rfl) ?_
  refine lv_iadd hx hb dX12_body_4 ?_
  refine eqi (x1 := 0) (by decide) ?_
  refine lv_tableIn (tgt := 112) hx hb dX12_body_5 (by decide) (by decide) rfl (by decide) ?_
  refine lv_aload_n hx hb dX12_body_112 rfl (lv_at hl 0 rfl) ?_
  refine lv_bipush (v := 10) hx hb dX12_body_113 (by decide) ?_
  refine vV (wr := []) hC hK hl hP hD hS hA (m_began l G h0 10 nw nk mhasKept nt mtaped nr mrowMany mroundOf mroundFrom mouts nm mfromHour mtoHour ns mfrom mto msort misFault mdeep mcoded mlines nl nc nF np ntr nb mbestCost nso nsi nit nsh nsf nss nrc jr (nI jd) mnumber mwhose msize misParted fnrc (by omega)) si_X12_366 [0, 1] [] rfl rfl (by decide) rfl (by decide) (by decide) rfl rfl rfl rfl rfl (Nat.le_of_ble_eq_true rfl) ⟨Nat.le_of_ble_eq_true rfl, Nat.le_of_ble_eq_true rfl⟩ ⟨Nat.le_of_ble_eq_true rfl, Nat.le_of_ble_eq_true rfl⟩ dX12_body_115 (fun u6037 H locs hr6036 hP hD hS => ?_)
  obtain ⟨jr16038, gtrc6039⟩ := u6037
  try dsimp only at hr6036
  have hP : va_P G.1 vwCl [(h0, .inr (12, [.ref nw, .ref nk, .int mhasKept, .ref nt, .int mtaped, .ref nr, .int mrowMany, .int mroundOf, .int mroundFrom, .int mouts, .ref nm, .int mfromHour, .int mtoHour, .ref ns, .int mfrom, .int mto, .int msort, .int misFault, .int mdeep, .int mcoded, .int mlines, .ref nl, .ref nc, .ref nF, .ref np, .ref ntr, .ref nb, .int mbestCost, .ref nso, .ref nsi, .ref nit, .ref nsh, .ref nsf, .ref nss, .ref nrc, .int (nI jr16038), .int (nI jd), .int mnumber, .int mwhose, .int msize, .int misParted])), (nrc, .inl (G.2.1, 30, .inl gtrc6039))] H := hP
  have hD : va_D A [(h0, .inr (12, [.ref nw, .ref nk, .int mhasKept, .ref nt, .int mtaped, .ref nr, .int mrowMany, .int mroundOf, .int mroundFrom, .int mouts, .ref nm, .int mfromHour, .int mtoHour, .ref ns, .int mfrom, .int mto, .int msort, .int misFault, .int mdeep, .int mcoded, .int mlines, .ref nl, .ref nc, .ref nF, .ref np, .ref ntr, .ref nb, .int mbestCost, .ref nso, .ref nsi, .ref nit, .ref nsh, .ref nsf, .ref nss, .ref nrc, .int (nI jr16038), .int (nI jd), .int mnumber, .int mwhose, .int msize, .int misParted])), (nrc, .inl (G.2.1, 30, .inl gtrc6039))] := hD
  have w6040 := hr6036
  refine lv_iload_n hx hb dX12_body_118 rfl (lv_at hl 3 rfl) ?_
  refine lv_aload_n hx hb dX12_body_119 rfl (lv_at hl 0 rfl) ?_
  refine gf_X12_369 hC rfl hK hP 0 rfl rfl dX12_body_120 ?_
  refine lv_iadd hx hb dX12_body_123 ?_
  exact RI (v := xx + msize) hC hP hD hS [0, 1] (jr16038, misParted, gtrc6039) rfl rfl (by decide) (⟨trivial, by omega⟩) rfl dX12_body_124
set_option maxHeartbeats 4000000 in
set_option maxRecDepth 100000 in
theorem m_from00 (l : Launch) (G : GG) (h0 : Nat) (xx : Int32) (nw : Nat) (nk : Nat) (mhasKept : Int32) (nt : Nat) (mtaped : Int32) (nr : Nat) (mrowMany : Int32) (mroundOf : Int32) (mroundFrom : Int32) (mouts : Int32) (nm : Nat) (mfromHour : Int32) (mtoHour : Int32) (ns : Nat) (mfrom : Int32) (mto : Int32) (msort : Int32) (misFault : Int32) (mdeep : Int32) (mcoded : Int32) (mlines : Int32) (nl : Nat) (nc : Nat) (nF : Nat) (np : Nat) (ntr : Nat) (nb : Nat) (mbestCost : Int32) (nso : Nat) (nsi : Nat) (nit : Nat) (nsh : Nat) (nsf : Nat) (nss : Nat) (nrc : Nat) (jr : Nat) (jd : Nat) (mnumber : Int32) (mwhose : Int32) (msize : Int32) (misParted : Int32) (fnrc : Nat → Int32) (hjr : jr ≤ 30) (hjd : jd < 7) : MI l G yX12_bodyFrom cX12_bodyFrom 5 (some .int) 4 0 0 [.ref h0, .int 0, .int 0, .int xx] [(h0, .inr (12, [.ref nw, .ref nk, .int mhasKept, .ref nt, .int mtaped, .ref nr, .int mrowMany, .int mroundOf, .int mroundFrom, .int mouts, .ref nm, .int mfromHour, .int mtoHour, .ref ns, .int mfrom, .int mto, .int msort, .int misFault, .int mdeep, .int mcoded, .int mlines, .ref nl, .ref nc, .ref nF, .ref np, .ref ntr, .ref nb, .int mbestCost, .ref nso, .ref nsi, .ref nit, .ref nsh, .ref nsf, .ref nss, .ref nrc, .int (nI jr), .int (nI jd), .int mnumber, .int mwhose, .int msize, .int misParted])), (nrc, .inl (G.2.1, 30, .inl fnrc))] (fun (r : Int32) (u : Nat × Int32 × (Nat → Int32)) => (True) ∧ (u.1 ≤ 30)) (fun u : Nat × Int32 × (Nat → Int32) => [(h0, .inr (12, [.ref nw, .ref nk, .int mhasKept, .ref nt, .int mtaped, .ref nr, .int mrowMany, .int mroundOf, .int mroundFrom, .int mouts, .ref nm, .int mfromHour, .int mtoHour, .ref ns, .int mfrom, .int mto, .int msort, .int misFault, .int mdeep, .int mcoded, .int mlines, .ref nl, .ref nc, .ref nF, .ref np, .ref ntr, .ref nb, .int mbestCost, .ref nso, .ref nsi, .ref nit, .ref nsh, .ref nsf, .ref nss, .ref nrc, .int (nI u.1), .int (nI jd), .int mnumber, .int mwhose, .int msize, .int u.2.1])), (nrc, .inl (G.2.1, 30, .inl u.2.2))]) := by
  refine MI.start (by decide +kernel) (Nat.le_of_ble_eq_true rfl) ?_
  intro p e s m below meth c A ls hC hK hP hD hS hA hl
  have hl : lv_has ls 5 [(0, .ref h0), (1, .int 0), (2, .int 0), (3, .int xx)] := hl
  obtain ⟨hx, hb, hr, hml, hB, hown, hlocks, hnm⟩ := id hC
  refine lv_iload_n hx hb dX12_bodyFrom_0 rfl (lv_at hl 1 rfl) ?_
  refine lv_istore (lv' := [(4, .int 0), (0, .ref h0), (1, .int 0), (2, .int 0), (3, .int xx)]) hx hb dX12_bodyFrom_1 hl (by decide) rfl (fun ls hl => ?_)
  refine lv_iload hx hb dX12_bodyFrom_3 (lv_at hl 0 rfl) ?_
  refine lv_iload_n hx hb dX12_bodyFrom_5 rfl (lv_at hl 3 rfl) ?_
  refine pS hC hK hl (m_hasOwn00 l G) si_X12_360 rfl rfl (Nat.le_of_ble_eq_true rfl) ⟨Nat.le_of_ble_eq_true rfl, Nat.le_of_ble_eq_true rfl⟩ ⟨by first | exact Nat.le_of_ble_eq_true rfl | exact Nat.zero_le _, by first | exact Nat.le_of_ble_eq_true rfl | exact Nat.zero_le _⟩ dX12_bodyFrom_6 (fun r6041 hr6041 => ?_)
  obtain rfl := hr6041
  refine lv_if_ne (tgt := 22) hx hb dX12_bodyFrom_9 (by decide) (fun _ => ?_) (fun c9 => absurd c9 (by decide))
  refine lv_aload_n hx hb dX12_bodyFrom_22 rfl (lv_at hl 1 rfl) ?_
  refine lv_iload hx hb dX12_bodyFrom_23 (lv_at hl 0 rfl) ?_
  refine lv_iload_n hx hb dX12_bodyFrom_25 rfl (lv_at hl 3 rfl) ?_
  refine lv_iload_n hx hb dX12_bodyFrom_26 rfl (lv_at hl 4 rfl) ?_
  refine iV (wr := []) hC hK hl hP hD hS hA (m_body00 l G h0 xx nw nk mhasKept nt mtaped nr mrowMany mroundOf mroundFrom mouts nm mfromHour mtoHour ns mfrom mto msort misFault mdeep mcoded mlines nl nc nF np ntr nb mbestCost nso nsi nit nsh nsf nss nrc jr jd mnumber mwhose msize misParted fnrc (by omega) (by omega)) si_X12_363 [0, 1] [] rfl rfl (by decide) rfl (by decide) (by decide) rfl rfl rfl rfl rfl (Nat.le_of_ble_eq_true rfl) ⟨Nat.le_of_ble_eq_true rfl, Nat.le_of_ble_eq_true rfl⟩ ⟨Nat.le_of_ble_eq_true rfl, Nat.le_of_ble_eq_true rfl⟩ dX12_bodyFrom_27 (fun r6043 u6044 H locs hr6043 hP hD hS => ?_)
  obtain ⟨jr16045, ip16046, gtrc6047⟩ := u6044
  try dsimp only at hr6043
  have hP : va_P G.1 vwCl [(h0, .inr (12, [.ref nw, .ref nk, .int mhasKept, .ref nt, .int mtaped, .ref nr, .int mrowMany, .int mroundOf, .int mroundFrom, .int mouts, .ref nm, .int mfromHour, .int mtoHour, .ref ns, .int mfrom, .int mto, .int msort, .int misFault, .int mdeep, .int mcoded, .int mlines, .ref nl, .ref nc, .ref nF, .ref np, .ref ntr, .ref nb, .int mbestCost, .ref nso, .ref nsi, .ref nit, .ref nsh, .ref nsf, .ref nss, .ref nrc, .int (nI jr16045), .int (nI jd), .int mnumber, .int mwhose, .int msize, .int ip16046])), (nrc, .inl (G.2.1, 30, .inl gtrc6047))] H := hP
  have hD : va_D A [(h0, .inr (12, [.ref nw, .ref nk, .int mhasKept, .ref nt, .int mtaped, .ref nr, .int mrowMany, .int mroundOf, .int mroundFrom, .int mouts, .ref nm, .int mfromHour, .int mtoHour, .ref ns, .int mfrom, .int mto, .int msort, .int misFault, .int mdeep, .int mcoded, .int mlines, .ref nl, .ref nc, .ref nF, .ref np, .ref ntr, .ref nb, .int mbestCost, .ref nso, .ref nsi, .ref nit, .ref nsh, .ref nsf, .ref nss, .ref nrc, .int (nI jr16045), .int (nI jd), .int mnumber, .int mwhose, .int msize, .int ip16046])), (nrc, .inl (G.2.1, 30, .inl gtrc6047))] := hD
  obtain ⟨hr6043, w6048⟩ := hr6043
  exact RI (v := r6043) hC hP hD hS [0, 1] (jr16045, ip16046, gtrc6047) rfl rfl (by decide) (⟨trivial, by omega⟩) rfl dX12_bodyFrom_30
set_option maxHeartbeats 4000000 in
set_option maxRecDepth 100000 in
theorem m_body40 (l : Launch) (G : GG) (h0 : Nat) (xx : Int32) (nw : Nat) (nk : Nat) (mhasKept : Int32) (nt : Nat) (mtaped : Int32) (nr : Nat) (mrowMany : Int32) (mroundOf : Int32) (mroundFrom : Int32) (mouts : Int32) (nm : Nat) (mfromHour : Int32) (mtoHour : Int32) (ns : Nat) (mfrom : Int32) (mto : Int32) (msort : Int32) (misFault : Int32) (mdeep : Int32) (mcoded : Int32) (mlines : Int32) (nl : Nat) (nc : Nat) (nF : Nat) (np : Nat) (ntr : Nat) (nb : Nat) (mbestCost : Int32) (nso : Nat) (nsi : Nat) (nit : Nat) (nsh : Nat) (nsf : Nat) (nss : Nat) (nrc : Nat) (jr : Nat) (jd : Nat) (mnumber : Int32) (mwhose : Int32) (msize : Int32) (misParted : Int32) (fnrc : Nat → Int32) (hjr : jr ≤ 30) (hjd : jd < 7) : MI l G yX12_body cX12_body 6 (some .int) 5 0 0 [.ref h0, .int 4, .int 0, .int xx] [(h0, .inr (12, [.ref nw, .ref nk, .int mhasKept, .ref nt, .int mtaped, .ref nr, .int mrowMany, .int mroundOf, .int mroundFrom, .int mouts, .ref nm, .int mfromHour, .int mtoHour, .ref ns, .int mfrom, .int mto, .int msort, .int misFault, .int mdeep, .int mcoded, .int mlines, .ref nl, .ref nc, .ref nF, .ref np, .ref ntr, .ref nb, .int mbestCost, .ref nso, .ref nsi, .ref nit, .ref nsh, .ref nsf, .ref nss, .ref nrc, .int (nI jr), .int (nI jd), .int mnumber, .int mwhose, .int msize, .int misParted])), (nrc, .inl (G.2.1, 30, .inl fnrc))] (fun (r : Int32) (u : Nat × Int32 × (Nat → Int32)) => (True) ∧ (u.1 ≤ 30)) (fun u : Nat × Int32 × (Nat → Int32) => [(h0, .inr (12, [.ref nw, .ref nk, .int mhasKept, .ref nt, .int mtaped, .ref nr, .int mrowMany, .int mroundOf, .int mroundFrom, .int mouts, .ref nm, .int mfromHour, .int mtoHour, .ref ns, .int mfrom, .int mto, .int msort, .int misFault, .int mdeep, .int mcoded, .int mlines, .ref nl, .ref nc, .ref nF, .ref np, .ref ntr, .ref nb, .int mbestCost, .ref nso, .ref nsi, .ref nit, .ref nsh, .ref nsf, .ref nss, .ref nrc, .int (nI u.1), .int (nI jd), .int mnumber, .int mwhose, .int msize, .int u.2.1])), (nrc, .inl (G.2.1, 30, .inl u.2.2))]) := by
  refine MI.start (by decide +kernel) (Nat.le_of_ble_eq_true rfl) ?_
  intro p e s m below meth c A ls hC hK hP hD hS hA hl
  have hl : lv_has ls 6 [(0, .ref h0), (1, .int 4), (2, .int 0), (3, .int xx)] := hl
  obtain ⟨hx, hb, hr, hml, hB, hown, hlocks, hnm⟩ := id hC
  refine lv_iconst (v := 4) hx hb dX12_body_0 (by decide) ?_
  refine lv_iload_n hx hb dX12_body_1 rfl (lv_at hl 1 rfl) ?_
  refine lv_imul hx hb dX12_body_2 ?_
  refine eqi (x1 := 16) (by decide) ?_
  refine lv_iload_n hx hb dX12_body_3 rfl (lv_at hl 2 rfl) ?_
  refine lv_iadd hx hb dX12_body_4 ?_
  refine eqi (x1 := 16) (by decide) ?_
  refine lv_tableIn (tgt := 274) hx hb dX12_body_5 (by decide) (by decide) rfl (by decide) ?_
  refine lv_aload_n hx hb dX12_body_274 rfl (lv_at hl 0 rfl) ?_
  refine lv_bipush (v := 50) hx hb dX12_body_275 (by decide) ?_
  refine vV (wr := []) hC hK hl hP hD hS hA (m_began l G h0 50 nw nk mhasKept nt mtaped nr mrowMany mroundOf mroundFrom mouts nm mfromHour mtoHour ns mfrom mto msort misFault mdeep mcoded mlines nl nc nF np ntr nb mbestCost nso nsi nit nsh nsf nss nrc jr (nI jd) mnumber mwhose msize misParted fnrc (by omega)) si_X12_366 [0, 1] [] rfl rfl (by decide) rfl (by decide) (by decide) rfl rfl rfl rfl rfl (Nat.le_of_ble_eq_true rfl) ⟨Nat.le_of_ble_eq_true rfl, Nat.le_of_ble_eq_true rfl⟩ ⟨Nat.le_of_ble_eq_true rfl, Nat.le_of_ble_eq_true rfl⟩ dX12_body_277 (fun u6050 H locs hr6049 hP hD hS => ?_)
  obtain ⟨jr16051, gtrc6052⟩ := u6050
  try dsimp only at hr6049
  have hP : va_P G.1 vwCl [(h0, .inr (12, [.ref nw, .ref nk, .int mhasKept, .ref nt, .int mtaped, .ref nr, .int mrowMany, .int mroundOf, .int mroundFrom, .int mouts, .ref nm, .int mfromHour, .int mtoHour, .ref ns, .int mfrom, .int mto, .int msort, .int misFault, .int mdeep, .int mcoded, .int mlines, .ref nl, .ref nc, .ref nF, .ref np, .ref ntr, .ref nb, .int mbestCost, .ref nso, .ref nsi, .ref nit, .ref nsh, .ref nsf, .ref nss, .ref nrc, .int (nI jr16051), .int (nI jd), .int mnumber, .int mwhose, .int msize, .int misParted])), (nrc, .inl (G.2.1, 30, .inl gtrc6052))] H := hP
  have hD : va_D A [(h0, .inr (12, [.ref nw, .ref nk, .int mhasKept, .ref nt, .int mtaped, .ref nr, .int mrowMany, .int mroundOf, .int mroundFrom, .int mouts, .ref nm, .int mfromHour, .int mtoHour, .ref ns, .int mfrom, .int mto, .int msort, .int misFault, .int mdeep, .int mcoded, .int mlines, .ref nl, .ref nc, .ref nF, .ref np, .ref ntr, .ref nb, .int mbestCost, .ref nso, .ref nsi, .ref nit, .ref nsh, .ref nsf, .ref nss, .ref nrc, .int (nI jr16051), .int (nI jd), .int mnumber, .int mwhose, .int msize, .int misParted])), (nrc, .inl (G.2.1, 30, .inl gtrc6052))] := hD
  have w6053 := hr6049
  refine lv_aload_n hx hb dX12_body_280 rfl (lv_at hl 0 rfl) ?_
  refine lv_iconst (v := 0) hx hb dX12_body_281 (by decide) ?_
  refine lv_iconst (v := 0) hx hb dX12_body_282 (by decide) ?_
  refine lv_iload_n hx hb dX12_body_283 rfl (lv_at hl 3 rfl) ?_
  refine iV (wr := []) hC hK hl hP hD hS hA (m_from00 l G h0 xx nw nk mhasKept nt mtaped nr mrowMany mroundOf mroundFrom mouts nm mfromHour mtoHour ns mfrom mto msort misFault mdeep mcoded mlines nl nc nF np ntr nb mbestCost nso nsi nit nsh nsf nss nrc jr16051 jd mnumber mwhose msize misParted gtrc6052 (by omega) (by omega)) si_X12_357 [0, 1] [] rfl rfl (by decide) rfl (by decide) (by decide) rfl rfl rfl rfl rfl (Nat.le_of_ble_eq_true rfl) ⟨Nat.le_of_ble_eq_true rfl, Nat.le_of_ble_eq_true rfl⟩ ⟨Nat.le_of_ble_eq_true rfl, Nat.le_of_ble_eq_true rfl⟩ dX12_body_284 (fun r6054 u6055 H locs hr6054 hP hD hS => ?_)
  obtain ⟨jr16056, ip16057, gtrc6058⟩ := u6055
  try dsimp only at hr6054
  have hP : va_P G.1 vwCl [(h0, .inr (12, [.ref nw, .ref nk, .int mhasKept, .ref nt, .int mtaped, .ref nr, .int mrowMany, .int mroundOf, .int mroundFrom, .int mouts, .ref nm, .int mfromHour, .int mtoHour, .ref ns, .int mfrom, .int mto, .int msort, .int misFault, .int mdeep, .int mcoded, .int mlines, .ref nl, .ref nc, .ref nF, .ref np, .ref ntr, .ref nb, .int mbestCost, .ref nso, .ref nsi, .ref nit, .ref nsh, .ref nsf, .ref nss, .ref nrc, .int (nI jr16056), .int (nI jd), .int mnumber, .int mwhose, .int msize, .int ip16057])), (nrc, .inl (G.2.1, 30, .inl gtrc6058))] H := hP
  have hD : va_D A [(h0, .inr (12, [.ref nw, .ref nk, .int mhasKept, .ref nt, .int mtaped, .ref nr, .int mrowMany, .int mroundOf, .int mroundFrom, .int mouts, .ref nm, .int mfromHour, .int mtoHour, .ref ns, .int mfrom, .int mto, .int msort, .int misFault, .int mdeep, .int mcoded, .int mlines, .ref nl, .ref nc, .ref nF, .ref np, .ref ntr, .ref nb, .int mbestCost, .ref nso, .ref nsi, .ref nit, .ref nsh, .ref nsf, .ref nss, .ref nrc, .int (nI jr16056), .int (nI jd), .int mnumber, .int mwhose, .int msize, .int ip16057])), (nrc, .inl (G.2.1, 30, .inl gtrc6058))] := hD
  obtain ⟨hr6054, w6059⟩ := hr6054
  refine lv_aload_n hx hb dX12_body_287 rfl (lv_at hl 0 rfl) ?_
  refine gf_X12_378 hC rfl hK hP 0 rfl rfl dX12_body_288 ?_
  refine lv_isub hx hb dX12_body_291 ?_
  exact RI (v := r6054 - mnumber) hC hP hD hS [0, 1] (jr16056, ip16057, gtrc6058) rfl rfl (by decide) (⟨trivial, by omega⟩) rfl dX12_body_292
set_option maxHeartbeats 4000000 in
set_option maxRecDepth 100000 in
theorem m_from40 (l : Launch) (G : GG) (h0 : Nat) (xx : Int32) (nw : Nat) (nk : Nat) (mhasKept : Int32) (nt : Nat) (mtaped : Int32) (nr : Nat) (mrowMany : Int32) (mroundOf : Int32) (mroundFrom : Int32) (mouts : Int32) (nm : Nat) (mfromHour : Int32) (mtoHour : Int32) (ns : Nat) (mfrom : Int32) (mto : Int32) (msort : Int32) (misFault : Int32) (mdeep : Int32) (mcoded : Int32) (mlines : Int32) (nl : Nat) (nc : Nat) (nF : Nat) (np : Nat) (ntr : Nat) (nb : Nat) (mbestCost : Int32) (nso : Nat) (nsi : Nat) (nit : Nat) (nsh : Nat) (nsf : Nat) (nss : Nat) (nrc : Nat) (jr : Nat) (jd : Nat) (mnumber : Int32) (mwhose : Int32) (msize : Int32) (misParted : Int32) (fnrc : Nat → Int32) (hjr : jr ≤ 30) (hjd : jd < 7) : MI l G yX12_bodyFrom cX12_bodyFrom 5 (some .int) 6 0 0 [.ref h0, .int 4, .int 0, .int xx] [(h0, .inr (12, [.ref nw, .ref nk, .int mhasKept, .ref nt, .int mtaped, .ref nr, .int mrowMany, .int mroundOf, .int mroundFrom, .int mouts, .ref nm, .int mfromHour, .int mtoHour, .ref ns, .int mfrom, .int mto, .int msort, .int misFault, .int mdeep, .int mcoded, .int mlines, .ref nl, .ref nc, .ref nF, .ref np, .ref ntr, .ref nb, .int mbestCost, .ref nso, .ref nsi, .ref nit, .ref nsh, .ref nsf, .ref nss, .ref nrc, .int (nI jr), .int (nI jd), .int mnumber, .int mwhose, .int msize, .int misParted])), (nrc, .inl (G.2.1, 30, .inl fnrc))] (fun (r : Int32) (u : Nat × Int32 × (Nat → Int32)) => (True) ∧ (u.1 ≤ 30)) (fun u : Nat × Int32 × (Nat → Int32) => [(h0, .inr (12, [.ref nw, .ref nk, .int mhasKept, .ref nt, .int mtaped, .ref nr, .int mrowMany, .int mroundOf, .int mroundFrom, .int mouts, .ref nm, .int mfromHour, .int mtoHour, .ref ns, .int mfrom, .int mto, .int msort, .int misFault, .int mdeep, .int mcoded, .int mlines, .ref nl, .ref nc, .ref nF, .ref np, .ref ntr, .ref nb, .int mbestCost, .ref nso, .ref nsi, .ref nit, .ref nsh, .ref nsf, .ref nss, .ref nrc, .int (nI u.1), .int (nI jd), .int mnumber, .int mwhose, .int msize, .int u.2.1])), (nrc, .inl (G.2.1, 30, .inl u.2.2))]) := by
  refine MI.start (by decide +kernel) (Nat.le_of_ble_eq_true rfl) ?_
  intro p e s m below meth c A ls hC hK hP hD hS hA hl
  have hl : lv_has ls 5 [(0, .ref h0), (1, .int 4), (2, .int 0), (3, .int xx)] := hl
  obtain ⟨hx, hb, hr, hml, hB, hown, hlocks, hnm⟩ := id hC
  refine lv_iload_n hx hb dX12_bodyFrom_0 rfl (lv_at hl 1 rfl) ?_
  refine lv_istore (lv' := [(4, .int 4), (0, .ref h0), (1, .int 4), (2, .int 0), (3, .int xx)]) hx hb dX12_bodyFrom_1 hl (by decide) rfl (fun ls hl => ?_)
  refine lv_iload hx hb dX12_bodyFrom_3 (lv_at hl 0 rfl) ?_
  refine lv_iload_n hx hb dX12_bodyFrom_5 rfl (lv_at hl 3 rfl) ?_
  refine pS hC hK hl (m_hasOwn40 l G) si_X12_360 rfl rfl (Nat.le_of_ble_eq_true rfl) ⟨Nat.le_of_ble_eq_true rfl, Nat.le_of_ble_eq_true rfl⟩ ⟨by first | exact Nat.le_of_ble_eq_true rfl | exact Nat.zero_le _, by first | exact Nat.le_of_ble_eq_true rfl | exact Nat.zero_le _⟩ dX12_bodyFrom_6 (fun r6060 hr6060 => ?_)
  obtain rfl := hr6060
  refine lv_if_ne (tgt := 22) hx hb dX12_bodyFrom_9 (by decide) (fun _ => ?_) (fun c9 => absurd c9 (by decide))
  refine lv_aload_n hx hb dX12_bodyFrom_22 rfl (lv_at hl 1 rfl) ?_
  refine lv_iload hx hb dX12_bodyFrom_23 (lv_at hl 0 rfl) ?_
  refine lv_iload_n hx hb dX12_bodyFrom_25 rfl (lv_at hl 3 rfl) ?_
  refine lv_iload_n hx hb dX12_bodyFrom_26 rfl (lv_at hl 4 rfl) ?_
  refine iV (wr := []) hC hK hl hP hD hS hA (m_body40 l G h0 xx nw nk mhasKept nt mtaped nr mrowMany mroundOf mroundFrom mouts nm mfromHour mtoHour ns mfrom mto msort misFault mdeep mcoded mlines nl nc nF np ntr nb mbestCost nso nsi nit nsh nsf nss nrc jr jd mnumber mwhose msize misParted fnrc (by omega) (by omega)) si_X12_363 [0, 1] [] rfl rfl (by decide) rfl (by decide) (by decide) rfl rfl rfl rfl rfl (Nat.le_of_ble_eq_true rfl) ⟨Nat.le_of_ble_eq_true rfl, Nat.le_of_ble_eq_true rfl⟩ ⟨Nat.le_of_ble_eq_true rfl, Nat.le_of_ble_eq_true rfl⟩ dX12_bodyFrom_27 (fun r6062 u6063 H locs hr6062 hP hD hS => ?_)
  obtain ⟨jr16064, ip16065, gtrc6066⟩ := u6063
  try dsimp only at hr6062
  have hP : va_P G.1 vwCl [(h0, .inr (12, [.ref nw, .ref nk, .int mhasKept, .ref nt, .int mtaped, .ref nr, .int mrowMany, .int mroundOf, .int mroundFrom, .int mouts, .ref nm, .int mfromHour, .int mtoHour, .ref ns, .int mfrom, .int mto, .int msort, .int misFault, .int mdeep, .int mcoded, .int mlines, .ref nl, .ref nc, .ref nF, .ref np, .ref ntr, .ref nb, .int mbestCost, .ref nso, .ref nsi, .ref nit, .ref nsh, .ref nsf, .ref nss, .ref nrc, .int (nI jr16064), .int (nI jd), .int mnumber, .int mwhose, .int msize, .int ip16065])), (nrc, .inl (G.2.1, 30, .inl gtrc6066))] H := hP
  have hD : va_D A [(h0, .inr (12, [.ref nw, .ref nk, .int mhasKept, .ref nt, .int mtaped, .ref nr, .int mrowMany, .int mroundOf, .int mroundFrom, .int mouts, .ref nm, .int mfromHour, .int mtoHour, .ref ns, .int mfrom, .int mto, .int msort, .int misFault, .int mdeep, .int mcoded, .int mlines, .ref nl, .ref nc, .ref nF, .ref np, .ref ntr, .ref nb, .int mbestCost, .ref nso, .ref nsi, .ref nit, .ref nsh, .ref nsf, .ref nss, .ref nrc, .int (nI jr16064), .int (nI jd), .int mnumber, .int mwhose, .int msize, .int ip16065])), (nrc, .inl (G.2.1, 30, .inl gtrc6066))] := hD
  obtain ⟨hr6062, w6067⟩ := hr6062
  exact RI (v := r6062) hC hP hD hS [0, 1] (jr16064, ip16065, gtrc6066) rfl rfl (by decide) (⟨trivial, by omega⟩) rfl dX12_bodyFrom_30
set_option maxHeartbeats 4000000 in
set_option maxRecDepth 100000 in
theorem m_body50 (l : Launch) (G : GG) (h0 : Nat) (xx : Int32) (nw : Nat) (nk : Nat) (mhasKept : Int32) (nt : Nat) (mtaped : Int32) (nr : Nat) (mrowMany : Int32) (mroundOf : Int32) (mroundFrom : Int32) (mouts : Int32) (nm : Nat) (mfromHour : Int32) (mtoHour : Int32) (ns : Nat) (mfrom : Int32) (mto : Int32) (msort : Int32) (misFault : Int32) (mdeep : Int32) (mcoded : Int32) (mlines : Int32) (nl : Nat) (nc : Nat) (nF : Nat) (np : Nat) (ntr : Nat) (nb : Nat) (mbestCost : Int32) (nso : Nat) (nsi : Nat) (nit : Nat) (nsh : Nat) (nsf : Nat) (nss : Nat) (nrc : Nat) (jr : Nat) (jd : Nat) (mnumber : Int32) (mwhose : Int32) (msize : Int32) (misParted : Int32) (fnrc : Nat → Int32) (hjr : jr ≤ 30) (hjd : jd < 7) : MI l G yX12_body cX12_body 6 (some .int) 7 0 0 [.ref h0, .int 5, .int 0, .int xx] [(h0, .inr (12, [.ref nw, .ref nk, .int mhasKept, .ref nt, .int mtaped, .ref nr, .int mrowMany, .int mroundOf, .int mroundFrom, .int mouts, .ref nm, .int mfromHour, .int mtoHour, .ref ns, .int mfrom, .int mto, .int msort, .int misFault, .int mdeep, .int mcoded, .int mlines, .ref nl, .ref nc, .ref nF, .ref np, .ref ntr, .ref nb, .int mbestCost, .ref nso, .ref nsi, .ref nit, .ref nsh, .ref nsf, .ref nss, .ref nrc, .int (nI jr), .int (nI jd), .int mnumber, .int mwhose, .int msize, .int misParted])), (nrc, .inl (G.2.1, 30, .inl fnrc))] (fun (r : Int32) (u : Nat × Int32 × (Nat → Int32)) => (True) ∧ (u.1 ≤ 30)) (fun u : Nat × Int32 × (Nat → Int32) => [(h0, .inr (12, [.ref nw, .ref nk, .int mhasKept, .ref nt, .int mtaped, .ref nr, .int mrowMany, .int mroundOf, .int mroundFrom, .int mouts, .ref nm, .int mfromHour, .int mtoHour, .ref ns, .int mfrom, .int mto, .int msort, .int misFault, .int mdeep, .int mcoded, .int mlines, .ref nl, .ref nc, .ref nF, .ref np, .ref ntr, .ref nb, .int mbestCost, .ref nso, .ref nsi, .ref nit, .ref nsh, .ref nsf, .ref nss, .ref nrc, .int (nI u.1), .int (nI jd), .int mnumber, .int mwhose, .int msize, .int u.2.1])), (nrc, .inl (G.2.1, 30, .inl u.2.2))]) := by
  refine MI.start (by decide +kernel) (Nat.le_of_ble_eq_true rfl) ?_
  intro p e s m below meth c A ls hC hK hP hD hS hA hl
  have hl : lv_has ls 6 [(0, .ref h0), (1, .int 5), (2, .int 0), (3, .int xx)] := hl
  obtain ⟨hx, hb, hr, hml, hB, hown, hlocks, hnm⟩ := id hC
  refine lv_iconst (v := 4) hx hb dX12_body_0 (by decide) ?_
  refine lv_iload_n hx hb dX12_body_1 rfl (lv_at hl 1 rfl) ?_
  refine lv_imul hx hb dX12_body_2 ?_
  refine eqi (x1 := 20) (by decide) ?_
  refine lv_iload_n hx hb dX12_body_3 rfl (lv_at hl 2 rfl) ?_
  refine lv_iadd hx hb dX12_body_4 ?_
  refine eqi (x1 := 20) (by decide) ?_
  refine lv_tableIn (tgt := 334) hx hb dX12_body_5 (by decide) (by decide) rfl (by decide) ?_
  refine lv_aload_n hx hb dX12_body_334 rfl (lv_at hl 0 rfl) ?_
  refine lv_bipush (v := 61) hx hb dX12_body_335 (by decide) ?_
  refine vV (wr := []) hC hK hl hP hD hS hA (m_began l G h0 61 nw nk mhasKept nt mtaped nr mrowMany mroundOf mroundFrom mouts nm mfromHour mtoHour ns mfrom mto msort misFault mdeep mcoded mlines nl nc nF np ntr nb mbestCost nso nsi nit nsh nsf nss nrc jr (nI jd) mnumber mwhose msize misParted fnrc (by omega)) si_X12_366 [0, 1] [] rfl rfl (by decide) rfl (by decide) (by decide) rfl rfl rfl rfl rfl (Nat.le_of_ble_eq_true rfl) ⟨Nat.le_of_ble_eq_true rfl, Nat.le_of_ble_eq_true rfl⟩ ⟨Nat.le_of_ble_eq_true rfl, Nat.le_of_ble_eq_true rfl⟩ dX12_body_337 (fun u6069 H locs hr6068 hP hD hS => ?_)
  obtain ⟨jr16070, gtrc6071⟩ := u6069
  try dsimp only at hr6068
  have hP : va_P G.1 vwCl [(h0, .inr (12, [.ref nw, .ref nk, .int mhasKept, .ref nt, .int mtaped, .ref nr, .int mrowMany, .int mroundOf, .int mroundFrom, .int mouts, .ref nm, .int mfromHour, .int mtoHour, .ref ns, .int mfrom, .int mto, .int msort, .int misFault, .int mdeep, .int mcoded, .int mlines, .ref nl, .ref nc, .ref nF, .ref np, .ref ntr, .ref nb, .int mbestCost, .ref nso, .ref nsi, .ref nit, .ref nsh, .ref nsf, .ref nss, .ref nrc, .int (nI jr16070), .int (nI jd), .int mnumber, .int mwhose, .int msize, .int misParted])), (nrc, .inl (G.2.1, 30, .inl gtrc6071))] H := hP
  have hD : va_D A [(h0, .inr (12, [.ref nw, .ref nk, .int mhasKept, .ref nt, .int mtaped, .ref nr, .int mrowMany, .int mroundOf, .int mroundFrom, .int mouts, .ref nm, .int mfromHour, .int mtoHour, .ref ns, .int mfrom, .int mto, .int msort, .int misFault, .int mdeep, .int mcoded, .int mlines, .ref nl, .ref nc, .ref nF, .ref np, .ref ntr, .ref nb, .int mbestCost, .ref nso, .ref nsi, .ref nit, .ref nsh, .ref nsf, .ref nss, .ref nrc, .int (nI jr16070), .int (nI jd), .int mnumber, .int mwhose, .int msize, .int misParted])), (nrc, .inl (G.2.1, 30, .inl gtrc6071))] := hD
  have w6072 := hr6068
  refine lv_aload_n hx hb dX12_body_340 rfl (lv_at hl 0 rfl) ?_
  refine lv_iconst (v := 4) hx hb dX12_body_341 (by decide) ?_
  refine lv_iconst (v := 0) hx hb dX12_body_342 (by decide) ?_
  refine lv_iload_n hx hb dX12_body_343 rfl (lv_at hl 3 rfl) ?_
  refine lv_aload_n hx hb dX12_body_344 rfl (lv_at hl 0 rfl) ?_
  refine gf_X12_375 hC rfl hK hP 0 rfl rfl dX12_body_345 ?_
  refine lv_iadd hx hb dX12_body_348 ?_
  refine iV (wr := []) hC hK hl hP hD hS hA (m_from40 l G h0 (xx + mwhose) nw nk mhasKept nt mtaped nr mrowMany mroundOf mroundFrom mouts nm mfromHour mtoHour ns mfrom mto msort misFault mdeep mcoded mlines nl nc nF np ntr nb mbestCost nso nsi nit nsh nsf nss nrc jr16070 jd mnumber mwhose msize misParted gtrc6071 (by omega) (by omega)) si_X12_357 [0, 1] [] rfl rfl (by decide) rfl (by decide) (by decide) rfl rfl rfl rfl rfl (Nat.le_of_ble_eq_true rfl) ⟨Nat.le_of_ble_eq_true rfl, Nat.le_of_ble_eq_true rfl⟩ ⟨Nat.le_of_ble_eq_true rfl, Nat.le_of_ble_eq_true rfl⟩ dX12_body_349 (fun r6073 u6074 H locs hr6073 hP hD hS => ?_)
  obtain ⟨jr16075, ip16076, gtrc6077⟩ := u6074
  try dsimp only at hr6073
  have hP : va_P G.1 vwCl [(h0, .inr (12, [.ref nw, .ref nk, .int mhasKept, .ref nt, .int mtaped, .ref nr, .int mrowMany, .int mroundOf, .int mroundFrom, .int mouts, .ref nm, .int mfromHour, .int mtoHour, .ref ns, .int mfrom, .int mto, .int msort, .int misFault, .int mdeep, .int mcoded, .int mlines, .ref nl, .ref nc, .ref nF, .ref np, .ref ntr, .ref nb, .int mbestCost, .ref nso, .ref nsi, .ref nit, .ref nsh, .ref nsf, .ref nss, .ref nrc, .int (nI jr16075), .int (nI jd), .int mnumber, .int mwhose, .int msize, .int ip16076])), (nrc, .inl (G.2.1, 30, .inl gtrc6077))] H := hP
  have hD : va_D A [(h0, .inr (12, [.ref nw, .ref nk, .int mhasKept, .ref nt, .int mtaped, .ref nr, .int mrowMany, .int mroundOf, .int mroundFrom, .int mouts, .ref nm, .int mfromHour, .int mtoHour, .ref ns, .int mfrom, .int mto, .int msort, .int misFault, .int mdeep, .int mcoded, .int mlines, .ref nl, .ref nc, .ref nF, .ref np, .ref ntr, .ref nb, .int mbestCost, .ref nso, .ref nsi, .ref nit, .ref nsh, .ref nsf, .ref nss, .ref nrc, .int (nI jr16075), .int (nI jd), .int mnumber, .int mwhose, .int msize, .int ip16076])), (nrc, .inl (G.2.1, 30, .inl gtrc6077))] := hD
  obtain ⟨hr6073, w6078⟩ := hr6073
  exact RI (v := r6073) hC hP hD hS [0, 1] (jr16075, ip16076, gtrc6077) rfl rfl (by decide) (⟨trivial, by omega⟩) rfl dX12_body_352
set_option maxHeartbeats 4000000 in
set_option maxRecDepth 100000 in
theorem m_from50 (l : Launch) (G : GG) (h0 : Nat) (xx : Int32) (nw : Nat) (nk : Nat) (mhasKept : Int32) (nt : Nat) (mtaped : Int32) (nr : Nat) (mrowMany : Int32) (mroundOf : Int32) (mroundFrom : Int32) (mouts : Int32) (nm : Nat) (mfromHour : Int32) (mtoHour : Int32) (ns : Nat) (mfrom : Int32) (mto : Int32) (msort : Int32) (misFault : Int32) (mdeep : Int32) (mcoded : Int32) (mlines : Int32) (nl : Nat) (nc : Nat) (nF : Nat) (np : Nat) (ntr : Nat) (nb : Nat) (mbestCost : Int32) (nso : Nat) (nsi : Nat) (nit : Nat) (nsh : Nat) (nsf : Nat) (nss : Nat) (nrc : Nat) (jr : Nat) (jd : Nat) (mnumber : Int32) (mwhose : Int32) (msize : Int32) (misParted : Int32) (fnrc : Nat → Int32) (hjr : jr ≤ 30) (hjd : jd < 7) : MI l G yX12_bodyFrom cX12_bodyFrom 5 (some .int) 8 0 0 [.ref h0, .int 5, .int 0, .int xx] [(h0, .inr (12, [.ref nw, .ref nk, .int mhasKept, .ref nt, .int mtaped, .ref nr, .int mrowMany, .int mroundOf, .int mroundFrom, .int mouts, .ref nm, .int mfromHour, .int mtoHour, .ref ns, .int mfrom, .int mto, .int msort, .int misFault, .int mdeep, .int mcoded, .int mlines, .ref nl, .ref nc, .ref nF, .ref np, .ref ntr, .ref nb, .int mbestCost, .ref nso, .ref nsi, .ref nit, .ref nsh, .ref nsf, .ref nss, .ref nrc, .int (nI jr), .int (nI jd), .int mnumber, .int mwhose, .int msize, .int misParted])), (nrc, .inl (G.2.1, 30, .inl fnrc))] (fun (r : Int32) (u : Nat × Int32 × (Nat → Int32)) => (True) ∧ (u.1 ≤ 30)) (fun u : Nat × Int32 × (Nat → Int32) => [(h0, .inr (12, [.ref nw, .ref nk, .int mhasKept, .ref nt, .int mtaped, .ref nr, .int mrowMany, .int mroundOf, .int mroundFrom, .int mouts, .ref nm, .int mfromHour, .int mtoHour, .ref ns, .int mfrom, .int mto, .int msort, .int misFault, .int mdeep, .int mcoded, .int mlines, .ref nl, .ref nc, .ref nF, .ref np, .ref ntr, .ref nb, .int mbestCost, .ref nso, .ref nsi, .ref nit, .ref nsh, .ref nsf, .ref nss, .ref nrc, .int (nI u.1), .int (nI jd), .int mnumber, .int mwhose, .int msize, .int u.2.1])), (nrc, .inl (G.2.1, 30, .inl u.2.2))]) := by
  refine MI.start (by decide +kernel) (Nat.le_of_ble_eq_true rfl) ?_
  intro p e s m below meth c A ls hC hK hP hD hS hA hl
  have hl : lv_has ls 5 [(0, .ref h0), (1, .int 5), (2, .int 0), (3, .int xx)] := hl
  obtain ⟨hx, hb, hr, hml, hB, hown, hlocks, hnm⟩ := id hC
  refine lv_iload_n hx hb dX12_bodyFrom_0 rfl (lv_at hl 1 rfl) ?_
  refine lv_istore (lv' := [(4, .int 5), (0, .ref h0), (1, .int 5), (2, .int 0), (3, .int xx)]) hx hb dX12_bodyFrom_1 hl (by decide) rfl (fun ls hl => ?_)
  refine lv_iload hx hb dX12_bodyFrom_3 (lv_at hl 0 rfl) ?_
  refine lv_iload_n hx hb dX12_bodyFrom_5 rfl (lv_at hl 3 rfl) ?_
  refine pS hC hK hl (m_hasOwn50 l G) si_X12_360 rfl rfl (Nat.le_of_ble_eq_true rfl) ⟨Nat.le_of_ble_eq_true rfl, Nat.le_of_ble_eq_true rfl⟩ ⟨by first | exact Nat.le_of_ble_eq_true rfl | exact Nat.zero_le _, by first | exact Nat.le_of_ble_eq_true rfl | exact Nat.zero_le _⟩ dX12_bodyFrom_6 (fun r6079 hr6079 => ?_)
  obtain rfl := hr6079
  refine lv_if_ne (tgt := 22) hx hb dX12_bodyFrom_9 (by decide) (fun _ => ?_) (fun c9 => absurd c9 (by decide))
  refine lv_aload_n hx hb dX12_bodyFrom_22 rfl (lv_at hl 1 rfl) ?_
  refine lv_iload hx hb dX12_bodyFrom_23 (lv_at hl 0 rfl) ?_
  refine lv_iload_n hx hb dX12_bodyFrom_25 rfl (lv_at hl 3 rfl) ?_
  refine lv_iload_n hx hb dX12_bodyFrom_26 rfl (lv_at hl 4 rfl) ?_
  refine iV (wr := []) hC hK hl hP hD hS hA (m_body50 l G h0 xx nw nk mhasKept nt mtaped nr mrowMany mroundOf mroundFrom mouts nm mfromHour mtoHour ns mfrom mto msort misFault mdeep mcoded mlines nl nc nF np ntr nb mbestCost nso nsi nit nsh nsf nss nrc jr jd mnumber mwhose msize misParted fnrc (by omega) (by omega)) si_X12_363 [0, 1] [] rfl rfl (by decide) rfl (by decide) (by decide) rfl rfl rfl rfl rfl (Nat.le_of_ble_eq_true rfl) ⟨Nat.le_of_ble_eq_true rfl, Nat.le_of_ble_eq_true rfl⟩ ⟨Nat.le_of_ble_eq_true rfl, Nat.le_of_ble_eq_true rfl⟩ dX12_bodyFrom_27 (fun r6081 u6082 H locs hr6081 hP hD hS => ?_)
  obtain ⟨jr16083, ip16084, gtrc6085⟩ := u6082
  try dsimp only at hr6081
  have hP : va_P G.1 vwCl [(h0, .inr (12, [.ref nw, .ref nk, .int mhasKept, .ref nt, .int mtaped, .ref nr, .int mrowMany, .int mroundOf, .int mroundFrom, .int mouts, .ref nm, .int mfromHour, .int mtoHour, .ref ns, .int mfrom, .int mto, .int msort, .int misFault, .int mdeep, .int mcoded, .int mlines, .ref nl, .ref nc, .ref nF, .ref np, .ref ntr, .ref nb, .int mbestCost, .ref nso, .ref nsi, .ref nit, .ref nsh, .ref nsf, .ref nss, .ref nrc, .int (nI jr16083), .int (nI jd), .int mnumber, .int mwhose, .int msize, .int ip16084])), (nrc, .inl (G.2.1, 30, .inl gtrc6085))] H := hP
  have hD : va_D A [(h0, .inr (12, [.ref nw, .ref nk, .int mhasKept, .ref nt, .int mtaped, .ref nr, .int mrowMany, .int mroundOf, .int mroundFrom, .int mouts, .ref nm, .int mfromHour, .int mtoHour, .ref ns, .int mfrom, .int mto, .int msort, .int misFault, .int mdeep, .int mcoded, .int mlines, .ref nl, .ref nc, .ref nF, .ref np, .ref ntr, .ref nb, .int mbestCost, .ref nso, .ref nsi, .ref nit, .ref nsh, .ref nsf, .ref nss, .ref nrc, .int (nI jr16083), .int (nI jd), .int mnumber, .int mwhose, .int msize, .int ip16084])), (nrc, .inl (G.2.1, 30, .inl gtrc6085))] := hD
  obtain ⟨hr6081, w6086⟩ := hr6081
  exact RI (v := r6081) hC hP hD hS [0, 1] (jr16083, ip16084, gtrc6085) rfl rfl (by decide) (⟨trivial, by omega⟩) rfl dX12_bodyFrom_30
set_option maxHeartbeats 4000000 in
set_option maxRecDepth 100000 in
theorem m_from10 (l : Launch) (G : GG) (h0 : Nat) (xx : Int32) (nw : Nat) (nk : Nat) (mhasKept : Int32) (nt : Nat) (mtaped : Int32) (nr : Nat) (mrowMany : Int32) (mroundOf : Int32) (mroundFrom : Int32) (mouts : Int32) (nm : Nat) (mfromHour : Int32) (mtoHour : Int32) (ns : Nat) (mfrom : Int32) (mto : Int32) (msort : Int32) (misFault : Int32) (mdeep : Int32) (mcoded : Int32) (mlines : Int32) (nl : Nat) (nc : Nat) (nF : Nat) (np : Nat) (ntr : Nat) (nb : Nat) (mbestCost : Int32) (nso : Nat) (nsi : Nat) (nit : Nat) (nsh : Nat) (nsf : Nat) (nss : Nat) (nrc : Nat) (jr : Nat) (jd : Nat) (mnumber : Int32) (mwhose : Int32) (msize : Int32) (misParted : Int32) (fnrc : Nat → Int32) (hjr : jr ≤ 30) (hjd : jd < 7) : MI l G yX12_bodyFrom cX12_bodyFrom 5 (some .int) 12 0 0 [.ref h0, .int 1, .int 0, .int xx] [(h0, .inr (12, [.ref nw, .ref nk, .int mhasKept, .ref nt, .int mtaped, .ref nr, .int mrowMany, .int mroundOf, .int mroundFrom, .int mouts, .ref nm, .int mfromHour, .int mtoHour, .ref ns, .int mfrom, .int mto, .int msort, .int misFault, .int mdeep, .int mcoded, .int mlines, .ref nl, .ref nc, .ref nF, .ref np, .ref ntr, .ref nb, .int mbestCost, .ref nso, .ref nsi, .ref nit, .ref nsh, .ref nsf, .ref nss, .ref nrc, .int (nI jr), .int (nI jd), .int mnumber, .int mwhose, .int msize, .int misParted])), (nrc, .inl (G.2.1, 30, .inl fnrc))] (fun (r : Int32) (u : Nat × Int32 × (Nat → Int32)) => (True) ∧ (u.1 ≤ 30)) (fun u : Nat × Int32 × (Nat → Int32) => [(h0, .inr (12, [.ref nw, .ref nk, .int mhasKept, .ref nt, .int mtaped, .ref nr, .int mrowMany, .int mroundOf, .int mroundFrom, .int mouts, .ref nm, .int mfromHour, .int mtoHour, .ref ns, .int mfrom, .int mto, .int msort, .int misFault, .int mdeep, .int mcoded, .int mlines, .ref nl, .ref nc, .ref nF, .ref np, .ref ntr, .ref nb, .int mbestCost, .ref nso, .ref nsi, .ref nit, .ref nsh, .ref nsf, .ref nss, .ref nrc, .int (nI u.1), .int (nI jd), .int mnumber, .int mwhose, .int msize, .int u.2.1])), (nrc, .inl (G.2.1, 30, .inl u.2.2))]) := by
  refine MI.start (by decide +kernel) (Nat.le_of_ble_eq_true rfl) ?_
  intro p e s m below meth c A ls hC hK hP hD hS hA hl
  have hl : lv_has ls 5 [(0, .ref h0), (1, .int 1), (2, .int 0), (3, .int xx)] := hl
  obtain ⟨hx, hb, hr, hml, hB, hown, hlocks, hnm⟩ := id hC
  refine lv_iload_n hx hb dX12_bodyFrom_0 rfl (lv_at hl 1 rfl) ?_
  refine lv_istore (lv' := [(4, .int 1), (0, .ref h0), (1, .int 1), (2, .int 0), (3, .int xx)]) hx hb dX12_bodyFrom_1 hl (by decide) rfl (fun ls hl => ?_)
  refine lv_iload hx hb dX12_bodyFrom_3 (lv_at hl 0 rfl) ?_
  refine lv_iload_n hx hb dX12_bodyFrom_5 rfl (lv_at hl 3 rfl) ?_
  refine pS hC hK hl (m_hasOwn10 l G) si_X12_360 rfl rfl (Nat.le_of_ble_eq_true rfl) ⟨Nat.le_of_ble_eq_true rfl, Nat.le_of_ble_eq_true rfl⟩ ⟨by first | exact Nat.le_of_ble_eq_true rfl | exact Nat.zero_le _, by first | exact Nat.le_of_ble_eq_true rfl | exact Nat.zero_le _⟩ dX12_bodyFrom_6 (fun r6087 hr6087 => ?_)
  obtain rfl := hr6087
  refine lv_if_ne (tgt := 22) hx hb dX12_bodyFrom_9 (by decide) (fun c9 => absurd (by decide) c9) (fun _ => ?_)
  refine lv_iload hx hb dX12_bodyFrom_12 (lv_at hl 0 rfl) ?_
  refine pS hC hK hl (m_above1 l G) si_X12_348 rfl rfl (Nat.le_of_ble_eq_true rfl) ⟨Nat.le_of_ble_eq_true rfl, Nat.le_of_ble_eq_true rfl⟩ ⟨by first | exact Nat.le_of_ble_eq_true rfl | exact Nat.zero_le _, by first | exact Nat.le_of_ble_eq_true rfl | exact Nat.zero_le _⟩ dX12_bodyFrom_14 (fun r6089 hr6089 => ?_)
  obtain rfl := hr6089
  refine lv_istore (lv' := [(4, .int 0), (0, .ref h0), (1, .int 1), (2, .int 0), (3, .int xx)]) hx hb dX12_bodyFrom_17 hl (by decide) rfl (fun ls hl => ?_)
  refine lv_goto (tgt := 3) hx hb dX12_bodyFrom_19 (by decide) ?_
  refine lv_iload hx hb dX12_bodyFrom_3 (lv_at hl 0 rfl) ?_
  refine lv_iload_n hx hb dX12_bodyFrom_5 rfl (lv_at hl 3 rfl) ?_
  refine pS hC hK hl (m_hasOwn00 l G) si_X12_360 rfl rfl (Nat.le_of_ble_eq_true rfl) ⟨Nat.le_of_ble_eq_true rfl, Nat.le_of_ble_eq_true rfl⟩ ⟨by first | exact Nat.le_of_ble_eq_true rfl | exact Nat.zero_le _, by first | exact Nat.le_of_ble_eq_true rfl | exact Nat.zero_le _⟩ dX12_bodyFrom_6 (fun r6091 hr6091 => ?_)
  obtain rfl := hr6091
  refine lv_if_ne (tgt := 22) hx hb dX12_bodyFrom_9 (by decide) (fun _ => ?_) (fun c9 => absurd c9 (by decide))
  refine lv_aload_n hx hb dX12_bodyFrom_22 rfl (lv_at hl 1 rfl) ?_
  refine lv_iload hx hb dX12_bodyFrom_23 (lv_at hl 0 rfl) ?_
  refine lv_iload_n hx hb dX12_bodyFrom_25 rfl (lv_at hl 3 rfl) ?_
  refine lv_iload_n hx hb dX12_bodyFrom_26 rfl (lv_at hl 4 rfl) ?_
  refine iV (wr := []) hC hK hl hP hD hS hA (m_body00 l G h0 xx nw nk mhasKept nt mtaped nr mrowMany mroundOf mroundFrom mouts nm mfromHour mtoHour ns mfrom mto msort misFault mdeep mcoded mlines nl nc nF np ntr nb mbestCost nso nsi nit nsh nsf nss nrc jr jd mnumber mwhose msize misParted fnrc (by omega) (by omega)) si_X12_363 [0, 1] [] rfl rfl (by decide) rfl (by decide) (by decide) rfl rfl rfl rfl rfl (Nat.le_of_ble_eq_true rfl) ⟨Nat.le_of_ble_eq_true rfl, Nat.le_of_ble_eq_true rfl⟩ ⟨Nat.le_of_ble_eq_true rfl, Nat.le_of_ble_eq_true rfl⟩ dX12_bodyFrom_27 (fun r6093 u6094 H locs hr6093 hP hD hS => ?_)
  obtain ⟨jr16095, ip16096, gtrc6097⟩ := u6094
  try dsimp only at hr6093
  have hP : va_P G.1 vwCl [(h0, .inr (12, [.ref nw, .ref nk, .int mhasKept, .ref nt, .int mtaped, .ref nr, .int mrowMany, .int mroundOf, .int mroundFrom, .int mouts, .ref nm, .int mfromHour, .int mtoHour, .ref ns, .int mfrom, .int mto, .int msort, .int misFault, .int mdeep, .int mcoded, .int mlines, .ref nl, .ref nc, .ref nF, .ref np, .ref ntr, .ref nb, .int mbestCost, .ref nso, .ref nsi, .ref nit, .ref nsh, .ref nsf, .ref nss, .ref nrc, .int (nI jr16095), .int (nI jd), .int mnumber, .int mwhose, .int msize, .int ip16096])), (nrc, .inl (G.2.1, 30, .inl gtrc6097))] H := hP
  have hD : va_D A [(h0, .inr (12, [.ref nw, .ref nk, .int mhasKept, .ref nt, .int mtaped, .ref nr, .int mrowMany, .int mroundOf, .int mroundFrom, .int mouts, .ref nm, .int mfromHour, .int mtoHour, .ref ns, .int mfrom, .int mto, .int msort, .int misFault, .int mdeep, .int mcoded, .int mlines, .ref nl, .ref nc, .ref nF, .ref np, .ref ntr, .ref nb, .int mbestCost, .ref nso, .ref nsi, .ref nit, .ref nsh, .ref nsf, .ref nss, .ref nrc, .int (nI jr16095), .int (nI jd), .int mnumber, .int mwhose, .int msize, .int ip16096])), (nrc, .inl (G.2.1, 30, .inl gtrc6097))] := hD
  obtain ⟨hr6093, w6098⟩ := hr6093
  exact RI (v := r6093) hC hP hD hS [0, 1] (jr16095, ip16096, gtrc6097) rfl rfl (by decide) (⟨trivial, by omega⟩) rfl dX12_bodyFrom_30
set_option maxHeartbeats 4000000 in
set_option maxRecDepth 100000 in
theorem m_from20 (l : Launch) (G : GG) (h0 : Nat) (xx : Int32) (nw : Nat) (nk : Nat) (mhasKept : Int32) (nt : Nat) (mtaped : Int32) (nr : Nat) (mrowMany : Int32) (mroundOf : Int32) (mroundFrom : Int32) (mouts : Int32) (nm : Nat) (mfromHour : Int32) (mtoHour : Int32) (ns : Nat) (mfrom : Int32) (mto : Int32) (msort : Int32) (misFault : Int32) (mdeep : Int32) (mcoded : Int32) (mlines : Int32) (nl : Nat) (nc : Nat) (nF : Nat) (np : Nat) (ntr : Nat) (nb : Nat) (mbestCost : Int32) (nso : Nat) (nsi : Nat) (nit : Nat) (nsh : Nat) (nsf : Nat) (nss : Nat) (nrc : Nat) (jr : Nat) (jd : Nat) (mnumber : Int32) (mwhose : Int32) (msize : Int32) (misParted : Int32) (fnrc : Nat → Int32) (hjr : jr ≤ 30) (hjd : jd < 7) : MI l G yX12_bodyFrom cX12_bodyFrom 5 (some .int) 12 0 0 [.ref h0, .int 2, .int 0, .int xx] [(h0, .inr (12, [.ref nw, .ref nk, .int mhasKept, .ref nt, .int mtaped, .ref nr, .int mrowMany, .int mroundOf, .int mroundFrom, .int mouts, .ref nm, .int mfromHour, .int mtoHour, .ref ns, .int mfrom, .int mto, .int msort, .int misFault, .int mdeep, .int mcoded, .int mlines, .ref nl, .ref nc, .ref nF, .ref np, .ref ntr, .ref nb, .int mbestCost, .ref nso, .ref nsi, .ref nit, .ref nsh, .ref nsf, .ref nss, .ref nrc, .int (nI jr), .int (nI jd), .int mnumber, .int mwhose, .int msize, .int misParted])), (nrc, .inl (G.2.1, 30, .inl fnrc))] (fun (r : Int32) (u : Nat × Int32 × (Nat → Int32)) => (True) ∧ (u.1 ≤ 30)) (fun u : Nat × Int32 × (Nat → Int32) => [(h0, .inr (12, [.ref nw, .ref nk, .int mhasKept, .ref nt, .int mtaped, .ref nr, .int mrowMany, .int mroundOf, .int mroundFrom, .int mouts, .ref nm, .int mfromHour, .int mtoHour, .ref ns, .int mfrom, .int mto, .int msort, .int misFault, .int mdeep, .int mcoded, .int mlines, .ref nl, .ref nc, .ref nF, .ref np, .ref ntr, .ref nb, .int mbestCost, .ref nso, .ref nsi, .ref nit, .ref nsh, .ref nsf, .ref nss, .ref nrc, .int (nI u.1), .int (nI jd), .int mnumber, .int mwhose, .int msize, .int u.2.1])), (nrc, .inl (G.2.1, 30, .inl u.2.2))]) := by
  refine MI.start (by decide +kernel) (Nat.le_of_ble_eq_true rfl) ?_
  intro p e s m below meth c A ls hC hK hP hD hS hA hl
  have hl : lv_has ls 5 [(0, .ref h0), (1, .int 2), (2, .int 0), (3, .int xx)] := hl
  obtain ⟨hx, hb, hr, hml, hB, hown, hlocks, hnm⟩ := id hC
  refine lv_iload_n hx hb dX12_bodyFrom_0 rfl (lv_at hl 1 rfl) ?_
  refine lv_istore (lv' := [(4, .int 2), (0, .ref h0), (1, .int 2), (2, .int 0), (3, .int xx)]) hx hb dX12_bodyFrom_1 hl (by decide) rfl (fun ls hl => ?_)
  refine lv_iload hx hb dX12_bodyFrom_3 (lv_at hl 0 rfl) ?_
  refine lv_iload_n hx hb dX12_bodyFrom_5 rfl (lv_at hl 3 rfl) ?_
  refine pS hC hK hl (m_hasOwn20 l G) si_X12_360 rfl rfl (Nat.le_of_ble_eq_true rfl) ⟨Nat.le_of_ble_eq_true rfl, Nat.le_of_ble_eq_true rfl⟩ ⟨by first | exact Nat.le_of_ble_eq_true rfl | exact Nat.zero_le _, by first | exact Nat.le_of_ble_eq_true rfl | exact Nat.zero_le _⟩ dX12_bodyFrom_6 (fun r6099 hr6099 => ?_)
  obtain rfl := hr6099
  refine lv_if_ne (tgt := 22) hx hb dX12_bodyFrom_9 (by decide) (fun c9 => absurd (by decide) c9) (fun _ => ?_)
  refine lv_iload hx hb dX12_bodyFrom_12 (lv_at hl 0 rfl) ?_
  refine pS hC hK hl (m_above2 l G) si_X12_348 rfl rfl (Nat.le_of_ble_eq_true rfl) ⟨Nat.le_of_ble_eq_true rfl, Nat.le_of_ble_eq_true rfl⟩ ⟨by first | exact Nat.le_of_ble_eq_true rfl | exact Nat.zero_le _, by first | exact Nat.le_of_ble_eq_true rfl | exact Nat.zero_le _⟩ dX12_bodyFrom_14 (fun r6101 hr6101 => ?_)
  obtain rfl := hr6101
  refine lv_istore (lv' := [(4, .int 0), (0, .ref h0), (1, .int 2), (2, .int 0), (3, .int xx)]) hx hb dX12_bodyFrom_17 hl (by decide) rfl (fun ls hl => ?_)
  refine lv_goto (tgt := 3) hx hb dX12_bodyFrom_19 (by decide) ?_
  refine lv_iload hx hb dX12_bodyFrom_3 (lv_at hl 0 rfl) ?_
  refine lv_iload_n hx hb dX12_bodyFrom_5 rfl (lv_at hl 3 rfl) ?_
  refine pS hC hK hl (m_hasOwn00 l G) si_X12_360 rfl rfl (Nat.le_of_ble_eq_true rfl) ⟨Nat.le_of_ble_eq_true rfl, Nat.le_of_ble_eq_true rfl⟩ ⟨by first | exact Nat.le_of_ble_eq_true rfl | exact Nat.zero_le _, by first | exact Nat.le_of_ble_eq_true rfl | exact Nat.zero_le _⟩ dX12_bodyFrom_6 (fun r6103 hr6103 => ?_)
  obtain rfl := hr6103
  refine lv_if_ne (tgt := 22) hx hb dX12_bodyFrom_9 (by decide) (fun _ => ?_) (fun c9 => absurd c9 (by decide))
  refine lv_aload_n hx hb dX12_bodyFrom_22 rfl (lv_at hl 1 rfl) ?_
  refine lv_iload hx hb dX12_bodyFrom_23 (lv_at hl 0 rfl) ?_
  refine lv_iload_n hx hb dX12_bodyFrom_25 rfl (lv_at hl 3 rfl) ?_
  refine lv_iload_n hx hb dX12_bodyFrom_26 rfl (lv_at hl 4 rfl) ?_
  refine iV (wr := []) hC hK hl hP hD hS hA (m_body00 l G h0 xx nw nk mhasKept nt mtaped nr mrowMany mroundOf mroundFrom mouts nm mfromHour mtoHour ns mfrom mto msort misFault mdeep mcoded mlines nl nc nF np ntr nb mbestCost nso nsi nit nsh nsf nss nrc jr jd mnumber mwhose msize misParted fnrc (by omega) (by omega)) si_X12_363 [0, 1] [] rfl rfl (by decide) rfl (by decide) (by decide) rfl rfl rfl rfl rfl (Nat.le_of_ble_eq_true rfl) ⟨Nat.le_of_ble_eq_true rfl, Nat.le_of_ble_eq_true rfl⟩ ⟨Nat.le_of_ble_eq_true rfl, Nat.le_of_ble_eq_true rfl⟩ dX12_bodyFrom_27 (fun r6105 u6106 H locs hr6105 hP hD hS => ?_)
  obtain ⟨jr16107, ip16108, gtrc6109⟩ := u6106
  try dsimp only at hr6105
  have hP : va_P G.1 vwCl [(h0, .inr (12, [.ref nw, .ref nk, .int mhasKept, .ref nt, .int mtaped, .ref nr, .int mrowMany, .int mroundOf, .int mroundFrom, .int mouts, .ref nm, .int mfromHour, .int mtoHour, .ref ns, .int mfrom, .int mto, .int msort, .int misFault, .int mdeep, .int mcoded, .int mlines, .ref nl, .ref nc, .ref nF, .ref np, .ref ntr, .ref nb, .int mbestCost, .ref nso, .ref nsi, .ref nit, .ref nsh, .ref nsf, .ref nss, .ref nrc, .int (nI jr16107), .int (nI jd), .int mnumber, .int mwhose, .int msize, .int ip16108])), (nrc, .inl (G.2.1, 30, .inl gtrc6109))] H := hP
  have hD : va_D A [(h0, .inr (12, [.ref nw, .ref nk, .int mhasKept, .ref nt, .int mtaped, .ref nr, .int mrowMany, .int mroundOf, .int mroundFrom, .int mouts, .ref nm, .int mfromHour, .int mtoHour, .ref ns, .int mfrom, .int mto, .int msort, .int misFault, .int mdeep, .int mcoded, .int mlines, .ref nl, .ref nc, .ref nF, .ref np, .ref ntr, .ref nb, .int mbestCost, .ref nso, .ref nsi, .ref nit, .ref nsh, .ref nsf, .ref nss, .ref nrc, .int (nI jr16107), .int (nI jd), .int mnumber, .int mwhose, .int msize, .int ip16108])), (nrc, .inl (G.2.1, 30, .inl gtrc6109))] := hD
  obtain ⟨hr6105, w6110⟩ := hr6105
  exact RI (v := r6105) hC hP hD hS [0, 1] (jr16107, ip16108, gtrc6109) rfl rfl (by decide) (⟨trivial, by omega⟩) rfl dX12_bodyFrom_30
set_option maxHeartbeats 4000000 in
set_option maxRecDepth 100000 in
theorem m_from30 (l : Launch) (G : GG) (h0 : Nat) (xx : Int32) (nw : Nat) (nk : Nat) (mhasKept : Int32) (nt : Nat) (mtaped : Int32) (nr : Nat) (mrowMany : Int32) (mroundOf : Int32) (mroundFrom : Int32) (mouts : Int32) (nm : Nat) (mfromHour : Int32) (mtoHour : Int32) (ns : Nat) (mfrom : Int32) (mto : Int32) (msort : Int32) (misFault : Int32) (mdeep : Int32) (mcoded : Int32) (mlines : Int32) (nl : Nat) (nc : Nat) (nF : Nat) (np : Nat) (ntr : Nat) (nb : Nat) (mbestCost : Int32) (nso : Nat) (nsi : Nat) (nit : Nat) (nsh : Nat) (nsf : Nat) (nss : Nat) (nrc : Nat) (jr : Nat) (jd : Nat) (mnumber : Int32) (mwhose : Int32) (msize : Int32) (misParted : Int32) (fnrc : Nat → Int32) (hjr : jr ≤ 30) (hjd : jd < 7) : MI l G yX12_bodyFrom cX12_bodyFrom 5 (some .int) 12 0 0 [.ref h0, .int 3, .int 0, .int xx] [(h0, .inr (12, [.ref nw, .ref nk, .int mhasKept, .ref nt, .int mtaped, .ref nr, .int mrowMany, .int mroundOf, .int mroundFrom, .int mouts, .ref nm, .int mfromHour, .int mtoHour, .ref ns, .int mfrom, .int mto, .int msort, .int misFault, .int mdeep, .int mcoded, .int mlines, .ref nl, .ref nc, .ref nF, .ref np, .ref ntr, .ref nb, .int mbestCost, .ref nso, .ref nsi, .ref nit, .ref nsh, .ref nsf, .ref nss, .ref nrc, .int (nI jr), .int (nI jd), .int mnumber, .int mwhose, .int msize, .int misParted])), (nrc, .inl (G.2.1, 30, .inl fnrc))] (fun (r : Int32) (u : Nat × Int32 × (Nat → Int32)) => (True) ∧ (u.1 ≤ 30)) (fun u : Nat × Int32 × (Nat → Int32) => [(h0, .inr (12, [.ref nw, .ref nk, .int mhasKept, .ref nt, .int mtaped, .ref nr, .int mrowMany, .int mroundOf, .int mroundFrom, .int mouts, .ref nm, .int mfromHour, .int mtoHour, .ref ns, .int mfrom, .int mto, .int msort, .int misFault, .int mdeep, .int mcoded, .int mlines, .ref nl, .ref nc, .ref nF, .ref np, .ref ntr, .ref nb, .int mbestCost, .ref nso, .ref nsi, .ref nit, .ref nsh, .ref nsf, .ref nss, .ref nrc, .int (nI u.1), .int (nI jd), .int mnumber, .int mwhose, .int msize, .int u.2.1])), (nrc, .inl (G.2.1, 30, .inl u.2.2))]) := by
  refine MI.start (by decide +kernel) (Nat.le_of_ble_eq_true rfl) ?_
  intro p e s m below meth c A ls hC hK hP hD hS hA hl
  have hl : lv_has ls 5 [(0, .ref h0), (1, .int 3), (2, .int 0), (3, .int xx)] := hl
  obtain ⟨hx, hb, hr, hml, hB, hown, hlocks, hnm⟩ := id hC
  refine lv_iload_n hx hb dX12_bodyFrom_0 rfl (lv_at hl 1 rfl) ?_
  refine lv_istore (lv' := [(4, .int 3), (0, .ref h0), (1, .int 3), (2, .int 0), (3, .int xx)]) hx hb dX12_bodyFrom_1 hl (by decide) rfl (fun ls hl => ?_)
  refine lv_iload hx hb dX12_bodyFrom_3 (lv_at hl 0 rfl) ?_
  refine lv_iload_n hx hb dX12_bodyFrom_5 rfl (lv_at hl 3 rfl) ?_
  refine pS hC hK hl (m_hasOwn30 l G) si_X12_360 rfl rfl (Nat.le_of_ble_eq_true rfl) ⟨Nat.le_of_ble_eq_true rfl, Nat.le_of_ble_eq_true rfl⟩ ⟨by first | exact Nat.le_of_ble_eq_true rfl | exact Nat.zero_le _, by first | exact Nat.le_of_ble_eq_true rfl | exact Nat.zero_le _⟩ dX12_bodyFrom_6 (fun r6111 hr6111 => ?_)
  obtain rfl := hr6111
  refine lv_if_ne (tgt := 22) hx hb dX12_bodyFrom_9 (by decide) (fun c9 => absurd (by decide) c9) (fun _ => ?_)
  refine lv_iload hx hb dX12_bodyFrom_12 (lv_at hl 0 rfl) ?_
  refine pS hC hK hl (m_above3 l G) si_X12_348 rfl rfl (Nat.le_of_ble_eq_true rfl) ⟨Nat.le_of_ble_eq_true rfl, Nat.le_of_ble_eq_true rfl⟩ ⟨by first | exact Nat.le_of_ble_eq_true rfl | exact Nat.zero_le _, by first | exact Nat.le_of_ble_eq_true rfl | exact Nat.zero_le _⟩ dX12_bodyFrom_14 (fun r6113 hr6113 => ?_)
  obtain rfl := hr6113
  refine lv_istore (lv' := [(4, .int 1), (0, .ref h0), (1, .int 3), (2, .int 0), (3, .int xx)]) hx hb dX12_bodyFrom_17 hl (by decide) rfl (fun ls hl => ?_)
  refine lv_goto (tgt := 3) hx hb dX12_bodyFrom_19 (by decide) ?_
  refine lv_iload hx hb dX12_bodyFrom_3 (lv_at hl 0 rfl) ?_
  refine lv_iload_n hx hb dX12_bodyFrom_5 rfl (lv_at hl 3 rfl) ?_
  refine pS hC hK hl (m_hasOwn10 l G) si_X12_360 rfl rfl (Nat.le_of_ble_eq_true rfl) ⟨Nat.le_of_ble_eq_true rfl, Nat.le_of_ble_eq_true rfl⟩ ⟨by first | exact Nat.le_of_ble_eq_true rfl | exact Nat.zero_le _, by first | exact Nat.le_of_ble_eq_true rfl | exact Nat.zero_le _⟩ dX12_bodyFrom_6 (fun r6115 hr6115 => ?_)
  obtain rfl := hr6115
  refine lv_if_ne (tgt := 22) hx hb dX12_bodyFrom_9 (by decide) (fun c9 => absurd (by decide) c9) (fun _ => ?_)
  refine lv_iload hx hb dX12_bodyFrom_12 (lv_at hl 0 rfl) ?_
  refine pS hC hK hl (m_above1 l G) si_X12_348 rfl rfl (Nat.le_of_ble_eq_true rfl) ⟨Nat.le_of_ble_eq_true rfl, Nat.le_of_ble_eq_true rfl⟩ ⟨by first | exact Nat.le_of_ble_eq_true rfl | exact Nat.zero_le _, by first | exact Nat.le_of_ble_eq_true rfl | exact Nat.zero_le _⟩ dX12_bodyFrom_14 (fun r6117 hr6117 => ?_)
  obtain rfl := hr6117
  refine lv_istore (lv' := [(4, .int 0), (0, .ref h0), (1, .int 3), (2, .int 0), (3, .int xx)]) hx hb dX12_bodyFrom_17 hl (by decide) rfl (fun ls hl => ?_)
  refine lv_goto (tgt := 3) hx hb dX12_bodyFrom_19 (by decide) ?_
  refine lv_iload hx hb dX12_bodyFrom_3 (lv_at hl 0 rfl) ?_
  refine lv_iload_n hx hb dX12_bodyFrom_5 rfl (lv_at hl 3 rfl) ?_
  refine pS hC hK hl (m_hasOwn00 l G) si_X12_360 rfl rfl (Nat.le_of_ble_eq_true rfl) ⟨Nat.le_of_ble_eq_true rfl, Nat.le_of_ble_eq_true rfl⟩ ⟨by first | exact Nat.le_of_ble_eq_true rfl | exact Nat.zero_le _, by first | exact Nat.le_of_ble_eq_true rfl | exact Nat.zero_le _⟩ dX12_bodyFrom_6 (fun r6119 hr6119 => ?_)
  obtain rfl := hr6119
  refine lv_if_ne (tgt := 22) hx hb dX12_bodyFrom_9 (by decide) (fun _ => ?_) (fun c9 => absurd c9 (by decide))
  refine lv_aload_n hx hb dX12_bodyFrom_22 rfl (lv_at hl 1 rfl) ?_
  refine lv_iload hx hb dX12_bodyFrom_23 (lv_at hl 0 rfl) ?_
  refine lv_iload_n hx hb dX12_bodyFrom_25 rfl (lv_at hl 3 rfl) ?_
  refine lv_iload_n hx hb dX12_bodyFrom_26 rfl (lv_at hl 4 rfl) ?_
  refine iV (wr := []) hC hK hl hP hD hS hA (m_body00 l G h0 xx nw nk mhasKept nt mtaped nr mrowMany mroundOf mroundFrom mouts nm mfromHour mtoHour ns mfrom mto msort misFault mdeep mcoded mlines nl nc nF np ntr nb mbestCost nso nsi nit nsh nsf nss nrc jr jd mnumber mwhose msize misParted fnrc (by omega) (by omega)) si_X12_363 [0, 1] [] rfl rfl (by decide) rfl (by decide) (by decide) rfl rfl rfl rfl rfl (Nat.le_of_ble_eq_true rfl) ⟨Nat.le_of_ble_eq_true rfl, Nat.le_of_ble_eq_true rfl⟩ ⟨Nat.le_of_ble_eq_true rfl, Nat.le_of_ble_eq_true rfl⟩ dX12_bodyFrom_27 (fun r6121 u6122 H locs hr6121 hP hD hS => ?_)
  obtain ⟨jr16123, ip16124, gtrc6125⟩ := u6122
  try dsimp only at hr6121
  have hP : va_P G.1 vwCl [(h0, .inr (12, [.ref nw, .ref nk, .int mhasKept, .ref nt, .int mtaped, .ref nr, .int mrowMany, .int mroundOf, .int mroundFrom, .int mouts, .ref nm, .int mfromHour, .int mtoHour, .ref ns, .int mfrom, .int mto, .int msort, .int misFault, .int mdeep, .int mcoded, .int mlines, .ref nl, .ref nc, .ref nF, .ref np, .ref ntr, .ref nb, .int mbestCost, .ref nso, .ref nsi, .ref nit, .ref nsh, .ref nsf, .ref nss, .ref nrc, .int (nI jr16123), .int (nI jd), .int mnumber, .int mwhose, .int msize, .int ip16124])), (nrc, .inl (G.2.1, 30, .inl gtrc6125))] H := hP
  have hD : va_D A [(h0, .inr (12, [.ref nw, .ref nk, .int mhasKept, .ref nt, .int mtaped, .ref nr, .int mrowMany, .int mroundOf, .int mroundFrom, .int mouts, .ref nm, .int mfromHour, .int mtoHour, .ref ns, .int mfrom, .int mto, .int msort, .int misFault, .int mdeep, .int mcoded, .int mlines, .ref nl, .ref nc, .ref nF, .ref np, .ref ntr, .ref nb, .int mbestCost, .ref nso, .ref nsi, .ref nit, .ref nsh, .ref nsf, .ref nss, .ref nrc, .int (nI jr16123), .int (nI jd), .int mnumber, .int mwhose, .int msize, .int ip16124])), (nrc, .inl (G.2.1, 30, .inl gtrc6125))] := hD
  obtain ⟨hr6121, w6126⟩ := hr6121
  exact RI (v := r6121) hC hP hD hS [0, 1] (jr16123, ip16124, gtrc6125) rfl rfl (by decide) (⟨trivial, by omega⟩) rfl dX12_bodyFrom_30
set_option maxHeartbeats 4000000 in
set_option maxRecDepth 100000 in
theorem m_from60 (l : Launch) (G : GG) (h0 : Nat) (xx : Int32) (nw : Nat) (nk : Nat) (mhasKept : Int32) (nt : Nat) (mtaped : Int32) (nr : Nat) (mrowMany : Int32) (mroundOf : Int32) (mroundFrom : Int32) (mouts : Int32) (nm : Nat) (mfromHour : Int32) (mtoHour : Int32) (ns : Nat) (mfrom : Int32) (mto : Int32) (msort : Int32) (misFault : Int32) (mdeep : Int32) (mcoded : Int32) (mlines : Int32) (nl : Nat) (nc : Nat) (nF : Nat) (np : Nat) (ntr : Nat) (nb : Nat) (mbestCost : Int32) (nso : Nat) (nsi : Nat) (nit : Nat) (nsh : Nat) (nsf : Nat) (nss : Nat) (nrc : Nat) (jr : Nat) (jd : Nat) (mnumber : Int32) (mwhose : Int32) (msize : Int32) (misParted : Int32) (fnrc : Nat → Int32) (hjr : jr ≤ 30) (hjd : jd < 7) : MI l G yX12_bodyFrom cX12_bodyFrom 5 (some .int) 12 0 0 [.ref h0, .int 6, .int 0, .int xx] [(h0, .inr (12, [.ref nw, .ref nk, .int mhasKept, .ref nt, .int mtaped, .ref nr, .int mrowMany, .int mroundOf, .int mroundFrom, .int mouts, .ref nm, .int mfromHour, .int mtoHour, .ref ns, .int mfrom, .int mto, .int msort, .int misFault, .int mdeep, .int mcoded, .int mlines, .ref nl, .ref nc, .ref nF, .ref np, .ref ntr, .ref nb, .int mbestCost, .ref nso, .ref nsi, .ref nit, .ref nsh, .ref nsf, .ref nss, .ref nrc, .int (nI jr), .int (nI jd), .int mnumber, .int mwhose, .int msize, .int misParted])), (nrc, .inl (G.2.1, 30, .inl fnrc))] (fun (r : Int32) (u : Nat × Int32 × (Nat → Int32)) => (True) ∧ (u.1 ≤ 30)) (fun u : Nat × Int32 × (Nat → Int32) => [(h0, .inr (12, [.ref nw, .ref nk, .int mhasKept, .ref nt, .int mtaped, .ref nr, .int mrowMany, .int mroundOf, .int mroundFrom, .int mouts, .ref nm, .int mfromHour, .int mtoHour, .ref ns, .int mfrom, .int mto, .int msort, .int misFault, .int mdeep, .int mcoded, .int mlines, .ref nl, .ref nc, .ref nF, .ref np, .ref ntr, .ref nb, .int mbestCost, .ref nso, .ref nsi, .ref nit, .ref nsh, .ref nsf, .ref nss, .ref nrc, .int (nI u.1), .int (nI jd), .int mnumber, .int mwhose, .int msize, .int u.2.1])), (nrc, .inl (G.2.1, 30, .inl u.2.2))]) := by
  refine MI.start (by decide +kernel) (Nat.le_of_ble_eq_true rfl) ?_
  intro p e s m below meth c A ls hC hK hP hD hS hA hl
  have hl : lv_has ls 5 [(0, .ref h0), (1, .int 6), (2, .int 0), (3, .int xx)] := hl
  obtain ⟨hx, hb, hr, hml, hB, hown, hlocks, hnm⟩ := id hC
  refine lv_iload_n hx hb dX12_bodyFrom_0 rfl (lv_at hl 1 rfl) ?_
  refine lv_istore (lv' := [(4, .int 6), (0, .ref h0), (1, .int 6), (2, .int 0), (3, .int xx)]) hx hb dX12_bodyFrom_1 hl (by decide) rfl (fun ls hl => ?_)
  refine lv_iload hx hb dX12_bodyFrom_3 (lv_at hl 0 rfl) ?_
  refine lv_iload_n hx hb dX12_bodyFrom_5 rfl (lv_at hl 3 rfl) ?_
  refine pS hC hK hl (m_hasOwn60 l G) si_X12_360 rfl rfl (Nat.le_of_ble_eq_true rfl) ⟨Nat.le_of_ble_eq_true rfl, Nat.le_of_ble_eq_true rfl⟩ ⟨by first | exact Nat.le_of_ble_eq_true rfl | exact Nat.zero_le _, by first | exact Nat.le_of_ble_eq_true rfl | exact Nat.zero_le _⟩ dX12_bodyFrom_6 (fun r6127 hr6127 => ?_)
  obtain rfl := hr6127
  refine lv_if_ne (tgt := 22) hx hb dX12_bodyFrom_9 (by decide) (fun c9 => absurd (by decide) c9) (fun _ => ?_)
  refine lv_iload hx hb dX12_bodyFrom_12 (lv_at hl 0 rfl) ?_
  refine pS hC hK hl (m_above6 l G) si_X12_348 rfl rfl (Nat.le_of_ble_eq_true rfl) ⟨Nat.le_of_ble_eq_true rfl, Nat.le_of_ble_eq_true rfl⟩ ⟨by first | exact Nat.le_of_ble_eq_true rfl | exact Nat.zero_le _, by first | exact Nat.le_of_ble_eq_true rfl | exact Nat.zero_le _⟩ dX12_bodyFrom_14 (fun r6129 hr6129 => ?_)
  obtain rfl := hr6129
  refine lv_istore (lv' := [(4, .int 0), (0, .ref h0), (1, .int 6), (2, .int 0), (3, .int xx)]) hx hb dX12_bodyFrom_17 hl (by decide) rfl (fun ls hl => ?_)
  refine lv_goto (tgt := 3) hx hb dX12_bodyFrom_19 (by decide) ?_
  refine lv_iload hx hb dX12_bodyFrom_3 (lv_at hl 0 rfl) ?_
  refine lv_iload_n hx hb dX12_bodyFrom_5 rfl (lv_at hl 3 rfl) ?_
  refine pS hC hK hl (m_hasOwn00 l G) si_X12_360 rfl rfl (Nat.le_of_ble_eq_true rfl) ⟨Nat.le_of_ble_eq_true rfl, Nat.le_of_ble_eq_true rfl⟩ ⟨by first | exact Nat.le_of_ble_eq_true rfl | exact Nat.zero_le _, by first | exact Nat.le_of_ble_eq_true rfl | exact Nat.zero_le _⟩ dX12_bodyFrom_6 (fun r6131 hr6131 => ?_)
  obtain rfl := hr6131
  refine lv_if_ne (tgt := 22) hx hb dX12_bodyFrom_9 (by decide) (fun _ => ?_) (fun c9 => absurd c9 (by decide))
  refine lv_aload_n hx hb dX12_bodyFrom_22 rfl (lv_at hl 1 rfl) ?_
  refine lv_iload hx hb dX12_bodyFrom_23 (lv_at hl 0 rfl) ?_
  refine lv_iload_n hx hb dX12_bodyFrom_25 rfl (lv_at hl 3 rfl) ?_
  refine lv_iload_n hx hb dX12_bodyFrom_26 rfl (lv_at hl 4 rfl) ?_
  refine iV (wr := []) hC hK hl hP hD hS hA (m_body00 l G h0 xx nw nk mhasKept nt mtaped nr mrowMany mroundOf mroundFrom mouts nm mfromHour mtoHour ns mfrom mto msort misFault mdeep mcoded mlines nl nc nF np ntr nb mbestCost nso nsi nit nsh nsf nss nrc jr jd mnumber mwhose msize misParted fnrc (by omega) (by omega)) si_X12_363 [0, 1] [] rfl rfl (by decide) rfl (by decide) (by decide) rfl rfl rfl rfl rfl (Nat.le_of_ble_eq_true rfl) ⟨Nat.le_of_ble_eq_true rfl, Nat.le_of_ble_eq_true rfl⟩ ⟨Nat.le_of_ble_eq_true rfl, Nat.le_of_ble_eq_true rfl⟩ dX12_bodyFrom_27 (fun r6133 u6134 H locs hr6133 hP hD hS => ?_)
  obtain ⟨jr16135, ip16136, gtrc6137⟩ := u6134
  try dsimp only at hr6133
  have hP : va_P G.1 vwCl [(h0, .inr (12, [.ref nw, .ref nk, .int mhasKept, .ref nt, .int mtaped, .ref nr, .int mrowMany, .int mroundOf, .int mroundFrom, .int mouts, .ref nm, .int mfromHour, .int mtoHour, .ref ns, .int mfrom, .int mto, .int msort, .int misFault, .int mdeep, .int mcoded, .int mlines, .ref nl, .ref nc, .ref nF, .ref np, .ref ntr, .ref nb, .int mbestCost, .ref nso, .ref nsi, .ref nit, .ref nsh, .ref nsf, .ref nss, .ref nrc, .int (nI jr16135), .int (nI jd), .int mnumber, .int mwhose, .int msize, .int ip16136])), (nrc, .inl (G.2.1, 30, .inl gtrc6137))] H := hP
  have hD : va_D A [(h0, .inr (12, [.ref nw, .ref nk, .int mhasKept, .ref nt, .int mtaped, .ref nr, .int mrowMany, .int mroundOf, .int mroundFrom, .int mouts, .ref nm, .int mfromHour, .int mtoHour, .ref ns, .int mfrom, .int mto, .int msort, .int misFault, .int mdeep, .int mcoded, .int mlines, .ref nl, .ref nc, .ref nF, .ref np, .ref ntr, .ref nb, .int mbestCost, .ref nso, .ref nsi, .ref nit, .ref nsh, .ref nsf, .ref nss, .ref nrc, .int (nI jr16135), .int (nI jd), .int mnumber, .int mwhose, .int msize, .int ip16136])), (nrc, .inl (G.2.1, 30, .inl gtrc6137))] := hD
  obtain ⟨hr6133, w6138⟩ := hr6133
  exact RI (v := r6133) hC hP hD hS [0, 1] (jr16135, ip16136, gtrc6137) rfl rfl (by decide) (⟨trivial, by omega⟩) rfl dX12_bodyFrom_30
set_option maxHeartbeats 4000000 in
set_option maxRecDepth 100000 in
theorem m_dealt0 (l : Launch) (G : GG) (h0 : Nat) (xx : Int32) (nw : Nat) (nk : Nat) (mhasKept : Int32) (nt : Nat) (mtaped : Int32) (nr : Nat) (mrowMany : Int32) (mroundOf : Int32) (mroundFrom : Int32) (mouts : Int32) (nm : Nat) (mfromHour : Int32) (mtoHour : Int32) (ns : Nat) (mfrom : Int32) (mto : Int32) (msort : Int32) (misFault : Int32) (mdeep : Int32) (mcoded : Int32) (mlines : Int32) (nl : Nat) (nc : Nat) (nF : Nat) (np : Nat) (ntr : Nat) (nb : Nat) (mbestCost : Int32) (nso : Nat) (nsi : Nat) (nit : Nat) (nsh : Nat) (nsf : Nat) (nss : Nat) (nrc : Nat) (jr : Nat) (jd : Nat) (mnumber : Int32) (mwhose : Int32) (msize : Int32) (misParted : Int32) (fnrc : Nat → Int32) (hjr : jr ≤ 30) (hjd : jd < 7) : MI l G yX12_dealt cX12_dealt 3 (some .int) 14 0 0 [.ref h0, .int 0, .int xx] [(h0, .inr (12, [.ref nw, .ref nk, .int mhasKept, .ref nt, .int mtaped, .ref nr, .int mrowMany, .int mroundOf, .int mroundFrom, .int mouts, .ref nm, .int mfromHour, .int mtoHour, .ref ns, .int mfrom, .int mto, .int msort, .int misFault, .int mdeep, .int mcoded, .int mlines, .ref nl, .ref nc, .ref nF, .ref np, .ref ntr, .ref nb, .int mbestCost, .ref nso, .ref nsi, .ref nit, .ref nsh, .ref nsf, .ref nss, .ref nrc, .int (nI jr), .int (nI jd), .int mnumber, .int mwhose, .int msize, .int misParted])), (nrc, .inl (G.2.1, 30, .inl fnrc))] (fun (r : Int32) (u : Nat × Int32 × (Nat → Int32)) => (True) ∧ (u.1 ≤ 30)) (fun u : Nat × Int32 × (Nat → Int32) => [(h0, .inr (12, [.ref nw, .ref nk, .int mhasKept, .ref nt, .int mtaped, .ref nr, .int mrowMany, .int mroundOf, .int mroundFrom, .int mouts, .ref nm, .int mfromHour, .int mtoHour, .ref ns, .int mfrom, .int mto, .int msort, .int misFault, .int mdeep, .int mcoded, .int mlines, .ref nl, .ref nc, .ref nF, .ref np, .ref ntr, .ref nb, .int mbestCost, .ref nso, .ref nsi, .ref nit, .ref nsh, .ref nsf, .ref nss, .ref nrc, .int (nI u.1), .int (nI jd), .int mnumber, .int mwhose, .int msize, .int u.2.1])), (nrc, .inl (G.2.1, 30, .inl u.2.2))]) := by
  refine MI.start (by decide +kernel) (Nat.le_of_ble_eq_true rfl) ?_
  intro p e s m below meth c A ls hC hK hP hD hS hA hl
  have hl : lv_has ls 3 [(0, .ref h0), (1, .int 0), (2, .int xx)] := hl
  obtain ⟨hx, hb, hr, hml, hB, hown, hlocks, hnm⟩ := id hC
  refine lv_aload_n hx hb dX12_dealt_0 rfl (lv_at hl 0 rfl) ?_
  refine lv_aload_n hx hb dX12_dealt_1 rfl (lv_at hl 0 rfl) ?_
  refine gf_X12_354 hC rfl hK hP 0 rfl rfl dX12_dealt_2 ?_
  refine lv_iload_n hx hb dX12_dealt_5 rfl (lv_at hl 1 rfl) ?_
  refine lv_iload_n hx hb dX12_dealt_6 rfl (lv_at hl 2 rfl) ?_
  rcases (show jd = 0 ∨ jd = 1 ∨ jd = 2 ∨ jd = 3 ∨ jd = 4 ∨ jd = 5 ∨ jd = 6 by omega) with rfl | rfl | rfl | rfl | rfl | rfl | rfl
  · refine iV (wr := []) hC hK hl hP hD hS hA (m_from00 l G h0 xx nw nk mhasKept nt mtaped nr mrowMany mroundOf mroundFrom mouts nm mfromHour mtoHour ns mfrom mto msort misFault mdeep mcoded mlines nl nc nF np ntr nb mbestCost nso nsi nit nsh nsf nss nrc jr 0 mnumber mwhose msize misParted fnrc (by omega) (by omega)) si_X12_357 [0, 1] [] rfl rfl (by decide) rfl (by decide) (by decide) rfl rfl rfl rfl rfl (Nat.le_of_ble_eq_true rfl) ⟨Nat.le_of_ble_eq_true rfl, Nat.le_of_ble_eq_true rfl⟩ ⟨Nat.le_of_ble_eq_true rfl, Nat.le_of_ble_eq_true rfl⟩ dX12_dealt_7 (fun r6139 u6140 H locs hr6139 hP hD hS => ?_)
    obtain ⟨jr16141, ip16142, gtrc6143⟩ := u6140
    try dsimp only at hr6139
    have hP : va_P G.1 vwCl [(h0, .inr (12, [.ref nw, .ref nk, .int mhasKept, .ref nt, .int mtaped, .ref nr, .int mrowMany, .int mroundOf, .int mroundFrom, .int mouts, .ref nm, .int mfromHour, .int mtoHour, .ref ns, .int mfrom, .int mto, .int msort, .int misFault, .int mdeep, .int mcoded, .int mlines, .ref nl, .ref nc, .ref nF, .ref np, .ref ntr, .ref nb, .int mbestCost, .ref nso, .ref nsi, .ref nit, .ref nsh, .ref nsf, .ref nss, .ref nrc, .int (nI jr16141), .int 0, .int mnumber, .int mwhose, .int msize, .int ip16142])), (nrc, .inl (G.2.1, 30, .inl gtrc6143))] H := hP
    have hD : va_D A [(h0, .inr (12, [.ref nw, .ref nk, .int mhasKept, .ref nt, .int mtaped, .ref nr, .int mrowMany, .int mroundOf, .int mroundFrom, .int mouts, .ref nm, .int mfromHour, .int mtoHour, .ref ns, .int mfrom, .int mto, .int msort, .int misFault, .int mdeep, .int mcoded, .int mlines, .ref nl, .ref nc, .ref nF, .ref np, .ref ntr, .ref nb, .int mbestCost, .ref nso, .ref nsi, .ref nit, .ref nsh, .ref nsf, .ref nss, .ref nrc, .int (nI jr16141), .int 0, .int mnumber, .int mwhose, .int msize, .int ip16142])), (nrc, .inl (G.2.1, 30, .inl gtrc6143))] := hD
    obtain ⟨hr6139, w6144⟩ := hr6139
    exact RI (v := r6139) hC hP hD hS [0, 1] (jr16141, ip16142, gtrc6143) rfl rfl (by decide) (⟨trivial, by omega⟩) rfl dX12_dealt_10
  · refine iV (wr := []) hC hK hl hP hD hS hA (m_from10 l G h0 xx nw nk mhasKept nt mtaped nr mrowMany mroundOf mroundFrom mouts nm mfromHour mtoHour ns mfrom mto msort misFault mdeep mcoded mlines nl nc nF np ntr nb mbestCost nso nsi nit nsh nsf nss nrc jr 1 mnumber mwhose msize misParted fnrc (by omega) (by omega)) si_X12_357 [0, 1] [] rfl rfl (by decide) rfl (by decide) (by decide) rfl rfl rfl rfl rfl (Nat.le_of_ble_eq_true rfl) ⟨Nat.le_of_ble_eq_true rfl, Nat.le_of_ble_eq_true rfl⟩ ⟨Nat.le_of_ble_eq_true rfl, Nat.le_of_ble_eq_true rfl⟩ dX12_dealt_7 (fun r6145 u6146 H locs hr6145 hP hD hS => ?_)
    obtain ⟨jr16147, ip16148, gtrc6149⟩ := u6146
    try dsimp only at hr6145
    have hP : va_P G.1 vwCl [(h0, .inr (12, [.ref nw, .ref nk, .int mhasKept, .ref nt, .int mtaped, .ref nr, .int mrowMany, .int mroundOf, .int mroundFrom, .int mouts, .ref nm, .int mfromHour, .int mtoHour, .ref ns, .int mfrom, .int mto, .int msort, .int misFault, .int mdeep, .int mcoded, .int mlines, .ref nl, .ref nc, .ref nF, .ref np, .ref ntr, .ref nb, .int mbestCost, .ref nso, .ref nsi, .ref nit, .ref nsh, .ref nsf, .ref nss, .ref nrc, .int (nI jr16147), .int 1, .int mnumber, .int mwhose, .int msize, .int ip16148])), (nrc, .inl (G.2.1, 30, .inl gtrc6149))] H := hP
    have hD : va_D A [(h0, .inr (12, [.ref nw, .ref nk, .int mhasKept, .ref nt, .int mtaped, .ref nr, .int mrowMany, .int mroundOf, .int mroundFrom, .int mouts, .ref nm, .int mfromHour, .int mtoHour, .ref ns, .int mfrom, .int mto, .int msort, .int misFault, .int mdeep, .int mcoded, .int mlines, .ref nl, .ref nc, .ref nF, .ref np, .ref ntr, .ref nb, .int mbestCost, .ref nso, .ref nsi, .ref nit, .ref nsh, .ref nsf, .ref nss, .ref nrc, .int (nI jr16147), .int 1, .int mnumber, .int mwhose, .int msize, .int ip16148])), (nrc, .inl (G.2.1, 30, .inl gtrc6149))] := hD
    obtain ⟨hr6145, w6150⟩ := hr6145
    exact RI (v := r6145) hC hP hD hS [0, 1] (jr16147, ip16148, gtrc6149) rfl rfl (by decide) (⟨trivial, by omega⟩) rfl dX12_dealt_10
  · refine iV (wr := []) hC hK hl hP hD hS hA (m_from20 l G h0 xx nw nk mhasKept nt mtaped nr mrowMany mroundOf mroundFrom mouts nm mfromHour mtoHour ns mfrom mto msort misFault mdeep mcoded mlines nl nc nF np ntr nb mbestCost nso nsi nit nsh nsf nss nrc jr 2 mnumber mwhose msize misParted fnrc (by omega) (by omega)) si_X12_357 [0, 1] [] rfl rfl (by decide) rfl (by decide) (by decide) rfl rfl rfl rfl rfl (Nat.le_of_ble_eq_true rfl) ⟨Nat.le_of_ble_eq_true rfl, Nat.le_of_ble_eq_true rfl⟩ ⟨Nat.le_of_ble_eq_true rfl, Nat.le_of_ble_eq_true rfl⟩ dX12_dealt_7 (fun r6151 u6152 H locs hr6151 hP hD hS => ?_)
    obtain ⟨jr16153, ip16154, gtrc6155⟩ := u6152
    try dsimp only at hr6151
    have hP : va_P G.1 vwCl [(h0, .inr (12, [.ref nw, .ref nk, .int mhasKept, .ref nt, .int mtaped, .ref nr, .int mrowMany, .int mroundOf, .int mroundFrom, .int mouts, .ref nm, .int mfromHour, .int mtoHour, .ref ns, .int mfrom, .int mto, .int msort, .int misFault, .int mdeep, .int mcoded, .int mlines, .ref nl, .ref nc, .ref nF, .ref np, .ref ntr, .ref nb, .int mbestCost, .ref nso, .ref nsi, .ref nit, .ref nsh, .ref nsf, .ref nss, .ref nrc, .int (nI jr16153), .int 2, .int mnumber, .int mwhose, .int msize, .int ip16154])), (nrc, .inl (G.2.1, 30, .inl gtrc6155))] H := hP
    have hD : va_D A [(h0, .inr (12, [.ref nw, .ref nk, .int mhasKept, .ref nt, .int mtaped, .ref nr, .int mrowMany, .int mroundOf, .int mroundFrom, .int mouts, .ref nm, .int mfromHour, .int mtoHour, .ref ns, .int mfrom, .int mto, .int msort, .int misFault, .int mdeep, .int mcoded, .int mlines, .ref nl, .ref nc, .ref nF, .ref np, .ref ntr, .ref nb, .int mbestCost, .ref nso, .ref nsi, .ref nit, .ref nsh, .ref nsf, .ref nss, .ref nrc, .int (nI jr16153), .int 2, .int mnumber, .int mwhose, .int msize, .int ip16154])), (nrc, .inl (G.2.1, 30, .inl gtrc6155))] := hD
    obtain ⟨hr6151, w6156⟩ := hr6151
    exact RI (v := r6151) hC hP hD hS [0, 1] (jr16153, ip16154, gtrc6155) rfl rfl (by decide) (⟨trivial, by omega⟩) rfl dX12_dealt_10
  · refine iV (wr := []) hC hK hl hP hD hS hA (m_from30 l G h0 xx nw nk mhasKept nt mtaped nr mrowMany mroundOf mroundFrom mouts nm mfromHour mtoHour ns mfrom mto msort misFault mdeep mcoded mlines nl nc nF np ntr nb mbestCost nso nsi nit nsh nsf nss nrc jr 3 mnumber mwhose msize misParted fnrc (by omega) (by omega)) si_X12_357 [0, 1] [] rfl rfl (by decide) rfl (by decide) (by decide) rfl rfl rfl rfl rfl (Nat.le_of_ble_eq_true rfl) ⟨Nat.le_of_ble_eq_true rfl, Nat.le_of_ble_eq_true rfl⟩ ⟨Nat.le_of_ble_eq_true rfl, Nat.le_of_ble_eq_true rfl⟩ dX12_dealt_7 (fun r6157 u6158 H locs hr6157 hP hD hS => ?_)
    obtain ⟨jr16159, ip16160, gtrc6161⟩ := u6158
    try dsimp only at hr6157
    have hP : va_P G.1 vwCl [(h0, .inr (12, [.ref nw, .ref nk, .int mhasKept, .ref nt, .int mtaped, .ref nr, .int mrowMany, .int mroundOf, .int mroundFrom, .int mouts, .ref nm, .int mfromHour, .int mtoHour, .ref ns, .int mfrom, .int mto, .int msort, .int misFault, .int mdeep, .int mcoded, .int mlines, .ref nl, .ref nc, .ref nF, .ref np, .ref ntr, .ref nb, .int mbestCost, .ref nso, .ref nsi, .ref nit, .ref nsh, .ref nsf, .ref nss, .ref nrc, .int (nI jr16159), .int 3, .int mnumber, .int mwhose, .int msize, .int ip16160])), (nrc, .inl (G.2.1, 30, .inl gtrc6161))] H := hP
    have hD : va_D A [(h0, .inr (12, [.ref nw, .ref nk, .int mhasKept, .ref nt, .int mtaped, .ref nr, .int mrowMany, .int mroundOf, .int mroundFrom, .int mouts, .ref nm, .int mfromHour, .int mtoHour, .ref ns, .int mfrom, .int mto, .int msort, .int misFault, .int mdeep, .int mcoded, .int mlines, .ref nl, .ref nc, .ref nF, .ref np, .ref ntr, .ref nb, .int mbestCost, .ref nso, .ref nsi, .ref nit, .ref nsh, .ref nsf, .ref nss, .ref nrc, .int (nI jr16159), .int 3, .int mnumber, .int mwhose, .int msize, .int ip16160])), (nrc, .inl (G.2.1, 30, .inl gtrc6161))] := hD
    obtain ⟨hr6157, w6162⟩ := hr6157
    exact RI (v := r6157) hC hP hD hS [0, 1] (jr16159, ip16160, gtrc6161) rfl rfl (by decide) (⟨trivial, by omega⟩) rfl dX12_dealt_10
  · refine iV (wr := []) hC hK hl hP hD hS hA (m_from40 l G h0 xx nw nk mhasKept nt mtaped nr mrowMany mroundOf mroundFrom mouts nm mfromHour mtoHour ns mfrom mto msort misFault mdeep mcoded mlines nl nc nF np ntr nb mbestCost nso nsi nit nsh nsf nss nrc jr 4 mnumber mwhose msize misParted fnrc (by omega) (by omega)) si_X12_357 [0, 1] [] rfl rfl (by decide) rfl (by decide) (by decide) rfl rfl rfl rfl rfl (Nat.le_of_ble_eq_true rfl) ⟨Nat.le_of_ble_eq_true rfl, Nat.le_of_ble_eq_true rfl⟩ ⟨Nat.le_of_ble_eq_true rfl, Nat.le_of_ble_eq_true rfl⟩ dX12_dealt_7 (fun r6163 u6164 H locs hr6163 hP hD hS => ?_)
    obtain ⟨jr16165, ip16166, gtrc6167⟩ := u6164
    try dsimp only at hr6163
    have hP : va_P G.1 vwCl [(h0, .inr (12, [.ref nw, .ref nk, .int mhasKept, .ref nt, .int mtaped, .ref nr, .int mrowMany, .int mroundOf, .int mroundFrom, .int mouts, .ref nm, .int mfromHour, .int mtoHour, .ref ns, .int mfrom, .int mto, .int msort, .int misFault, .int mdeep, .int mcoded, .int mlines, .ref nl, .ref nc, .ref nF, .ref np, .ref ntr, .ref nb, .int mbestCost, .ref nso, .ref nsi, .ref nit, .ref nsh, .ref nsf, .ref nss, .ref nrc, .int (nI jr16165), .int 4, .int mnumber, .int mwhose, .int msize, .int ip16166])), (nrc, .inl (G.2.1, 30, .inl gtrc6167))] H := hP
    have hD : va_D A [(h0, .inr (12, [.ref nw, .ref nk, .int mhasKept, .ref nt, .int mtaped, .ref nr, .int mrowMany, .int mroundOf, .int mroundFrom, .int mouts, .ref nm, .int mfromHour, .int mtoHour, .ref ns, .int mfrom, .int mto, .int msort, .int misFault, .int mdeep, .int mcoded, .int mlines, .ref nl, .ref nc, .ref nF, .ref np, .ref ntr, .ref nb, .int mbestCost, .ref nso, .ref nsi, .ref nit, .ref nsh, .ref nsf, .ref nss, .ref nrc, .int (nI jr16165), .int 4, .int mnumber, .int mwhose, .int msize, .int ip16166])), (nrc, .inl (G.2.1, 30, .inl gtrc6167))] := hD
    obtain ⟨hr6163, w6168⟩ := hr6163
    exact RI (v := r6163) hC hP hD hS [0, 1] (jr16165, ip16166, gtrc6167) rfl rfl (by decide) (⟨trivial, by omega⟩) rfl dX12_dealt_10
  · refine iV (wr := []) hC hK hl hP hD hS hA (m_from50 l G h0 xx nw nk mhasKept nt mtaped nr mrowMany mroundOf mroundFrom mouts nm mfromHour mtoHour ns mfrom mto msort misFault mdeep mcoded mlines nl nc nF np ntr nb mbestCost nso nsi nit nsh nsf nss nrc jr 5 mnumber mwhose msize misParted fnrc (by omega) (by omega)) si_X12_357 [0, 1] [] rfl rfl (by decide) rfl (by decide) (by decide) rfl rfl rfl rfl rfl (Nat.le_of_ble_eq_true rfl) ⟨Nat.le_of_ble_eq_true rfl, Nat.le_of_ble_eq_true rfl⟩ ⟨Nat.le_of_ble_eq_true rfl, Nat.le_of_ble_eq_true rfl⟩ dX12_dealt_7 (fun r6169 u6170 H locs hr6169 hP hD hS => ?_)
    obtain ⟨jr16171, ip16172, gtrc6173⟩ := u6170
    try dsimp only at hr6169
    have hP : va_P G.1 vwCl [(h0, .inr (12, [.ref nw, .ref nk, .int mhasKept, .ref nt, .int mtaped, .ref nr, .int mrowMany, .int mroundOf, .int mroundFrom, .int mouts, .ref nm, .int mfromHour, .int mtoHour, .ref ns, .int mfrom, .int mto, .int msort, .int misFault, .int mdeep, .int mcoded, .int mlines, .ref nl, .ref nc, .ref nF, .ref np, .ref ntr, .ref nb, .int mbestCost, .ref nso, .ref nsi, .ref nit, .ref nsh, .ref nsf, .ref nss, .ref nrc, .int (nI jr16171), .int 5, .int mnumber, .int mwhose, .int msize, .int ip16172])), (nrc, .inl (G.2.1, 30, .inl gtrc6173))] H := hP
    have hD : va_D A [(h0, .inr (12, [.ref nw, .ref nk, .int mhasKept, .ref nt, .int mtaped, .ref nr, .int mrowMany, .int mroundOf, .int mroundFrom, .int mouts, .ref nm, .int mfromHour, .int mtoHour, .ref ns, .int mfrom, .int mto, .int msort, .int misFault, .int mdeep, .int mcoded, .int mlines, .ref nl, .ref nc, .ref nF, .ref np, .ref ntr, .ref nb, .int mbestCost, .ref nso, .ref nsi, .ref nit, .ref nsh, .ref nsf, .ref nss, .ref nrc, .int (nI jr16171), .int 5, .int mnumber, .int mwhose, .int msize, .int ip16172])), (nrc, .inl (G.2.1, 30, .inl gtrc6173))] := hD
    obtain ⟨hr6169, w6174⟩ := hr6169
    exact RI (v := r6169) hC hP hD hS [0, 1] (jr16171, ip16172, gtrc6173) rfl rfl (by decide) (⟨trivial, by omega⟩) rfl dX12_dealt_10
  · refine iV (wr := []) hC hK hl hP hD hS hA (m_from60 l G h0 xx nw nk mhasKept nt mtaped nr mrowMany mroundOf mroundFrom mouts nm mfromHour mtoHour ns mfrom mto msort misFault mdeep mcoded mlines nl nc nF np ntr nb mbestCost nso nsi nit nsh nsf nss nrc jr 6 mnumber mwhose msize misParted fnrc (by omega) (by omega)) si_X12_357 [0, 1] [] rfl rfl (by decide) rfl (by decide) (by decide) rfl rfl rfl rfl rfl (Nat.le_of_ble_eq_true rfl) ⟨Nat.le_of_ble_eq_true rfl, Nat.le_of_ble_eq_true rfl⟩ ⟨Nat.le_of_ble_eq_true rfl, Nat.le_of_ble_eq_true rfl⟩ dX12_dealt_7 (fun r6175 u6176 H locs hr6175 hP hD hS => ?_)
    obtain ⟨jr16177, ip16178, gtrc6179⟩ := u6176
    try dsimp only at hr6175
    have hP : va_P G.1 vwCl [(h0, .inr (12, [.ref nw, .ref nk, .int mhasKept, .ref nt, .int mtaped, .ref nr, .int mrowMany, .int mroundOf, .int mroundFrom, .int mouts, .ref nm, .int mfromHour, .int mtoHour, .ref ns, .int mfrom, .int mto, .int msort, .int misFault, .int mdeep, .int mcoded, .int mlines, .ref nl, .ref nc, .ref nF, .ref np, .ref ntr, .ref nb, .int mbestCost, .ref nso, .ref nsi, .ref nit, .ref nsh, .ref nsf, .ref nss, .ref nrc, .int (nI jr16177), .int 6, .int mnumber, .int mwhose, .int msize, .int ip16178])), (nrc, .inl (G.2.1, 30, .inl gtrc6179))] H := hP
    have hD : va_D A [(h0, .inr (12, [.ref nw, .ref nk, .int mhasKept, .ref nt, .int mtaped, .ref nr, .int mrowMany, .int mroundOf, .int mroundFrom, .int mouts, .ref nm, .int mfromHour, .int mtoHour, .ref ns, .int mfrom, .int mto, .int msort, .int misFault, .int mdeep, .int mcoded, .int mlines, .ref nl, .ref nc, .ref nF, .ref np, .ref ntr, .ref nb, .int mbestCost, .ref nso, .ref nsi, .ref nit, .ref nsh, .ref nsf, .ref nss, .ref nrc, .int (nI jr16177), .int 6, .int mnumber, .int mwhose, .int msize, .int ip16178])), (nrc, .inl (G.2.1, 30, .inl gtrc6179))] := hD
    obtain ⟨hr6175, w6180⟩ := hr6175
    exact RI (v := r6175) hC hP hD hS [0, 1] (jr16177, ip16178, gtrc6179) rfl rfl (by decide) (⟨trivial, by omega⟩) rfl dX12_dealt_10
set_option maxHeartbeats 4000000 in
set_option maxRecDepth 100000 in
theorem m_body01 (l : Launch) (G : GG) (h0 : Nat) (xx : Int32) (nw : Nat) (nk : Nat) (mhasKept : Int32) (nt : Nat) (mtaped : Int32) (nr : Nat) (mrowMany : Int32) (mroundOf : Int32) (mroundFrom : Int32) (mouts : Int32) (nm : Nat) (mfromHour : Int32) (mtoHour : Int32) (ns : Nat) (mfrom : Int32) (mto : Int32) (msort : Int32) (misFault : Int32) (mdeep : Int32) (mcoded : Int32) (mlines : Int32) (nl : Nat) (nc : Nat) (nF : Nat) (np : Nat) (ntr : Nat) (nb : Nat) (mbestCost : Int32) (nso : Nat) (nsi : Nat) (nit : Nat) (nsh : Nat) (nsf : Nat) (nss : Nat) (nrc : Nat) (jr : Nat) (jd : Nat) (mnumber : Int32) (mwhose : Int32) (msize : Int32) (misParted : Int32) (fnrc : Nat → Int32) (hjr : jr ≤ 30) (hjd : jd < 7) : MI l G yX12_body cX12_body 6 (some .int) 15 0 0 [.ref h0, .int 0, .int 1, .int xx] [(h0, .inr (12, [.ref nw, .ref nk, .int mhasKept, .ref nt, .int mtaped, .ref nr, .int mrowMany, .int mroundOf, .int mroundFrom, .int mouts, .ref nm, .int mfromHour, .int mtoHour, .ref ns, .int mfrom, .int mto, .int msort, .int misFault, .int mdeep, .int mcoded, .int mlines, .ref nl, .ref nc, .ref nF, .ref np, .ref ntr, .ref nb, .int mbestCost, .ref nso, .ref nsi, .ref nit, .ref nsh, .ref nsf, .ref nss, .ref nrc, .int (nI jr), .int (nI jd), .int mnumber, .int mwhose, .int msize, .int misParted])), (nrc, .inl (G.2.1, 30, .inl fnrc))] (fun (r : Int32) (u : Nat × Int32 × (Nat → Int32)) => (True) ∧ (u.1 ≤ 30)) (fun u : Nat × Int32 × (Nat → Int32) => [(h0, .inr (12, [.ref nw, .ref nk, .int mhasKept, .ref nt, .int mtaped, .ref nr, .int mrowMany, .int mroundOf, .int mroundFrom, .int mouts, .ref nm, .int mfromHour, .int mtoHour, .ref ns, .int mfrom, .int mto, .int msort, .int misFault, .int mdeep, .int mcoded, .int mlines, .ref nl, .ref nc, .ref nF, .ref np, .ref ntr, .ref nb, .int mbestCost, .ref nso, .ref nsi, .ref nit, .ref nsh, .ref nsf, .ref nss, .ref nrc, .int (nI u.1), .int (nI jd), .int mnumber, .int mwhose, .int msize, .int u.2.1])), (nrc, .inl (G.2.1, 30, .inl u.2.2))]) := by
  refine MI.start (by decide +kernel) (Nat.le_of_ble_eq_true rfl) ?_
  intro p e s m below meth c A ls hC hK hP hD hS hA hl
  have hl : lv_has ls 6 [(0, .ref h0), (1, .int 0), (2, .int 1), (3, .int xx)] := hl
  obtain ⟨hx, hb, hr, hml, hB, hown, hlocks, hnm⟩ := id hC
  refine lv_iconst (v := 4) hx hb dX12_body_0 (by decide) ?_
  refine lv_iload_n hx hb dX12_body_1 rfl (lv_at hl 1 rfl) ?_
  refine lv_imul hx hb dX12_body_2 ?_
  refine eqi (x1 := 0) (by decide) ?_
  refine lv_iload_n hx hb dX12_body_3 rfl (lv_at hl 2 rfl) ?_
  refine lv_iadd hx hb dX12_body_4 ?_
  refine eqi (x1 := 1) (by decide) ?_
  refine lv_tableIn (tgt := 125) hx hb dX12_body_5 (by decide) (by decide) rfl (by decide) ?_
  refine lv_aload_n hx hb dX12_body_125 rfl (lv_at hl 0 rfl) ?_
  refine lv_bipush (v := 11) hx hb dX12_body_126 (by decide) ?_
  refine vV (wr := []) hC hK hl hP hD hS hA (m_began l G h0 11 nw nk mhasKept nt mtaped nr mrowMany mroundOf mroundFrom mouts nm mfromHour mtoHour ns mfrom mto msort misFault mdeep mcoded mlines nl nc nF np ntr nb mbestCost nso nsi nit nsh nsf nss nrc jr (nI jd) mnumber mwhose msize misParted fnrc (by omega)) si_X12_366 [0, 1] [] rfl rfl (by decide) rfl (by decide) (by decide) rfl rfl rfl rfl rfl (Nat.le_of_ble_eq_true rfl) ⟨Nat.le_of_ble_eq_true rfl, Nat.le_of_ble_eq_true rfl⟩ ⟨Nat.le_of_ble_eq_true rfl, Nat.le_of_ble_eq_true rfl⟩ dX12_body_128 (fun u6182 H locs hr6181 hP hD hS => ?_)
  obtain ⟨jr16183, gtrc6184⟩ := u6182
  try dsimp only at hr6181
  have hP : va_P G.1 vwCl [(h0, .inr (12, [.ref nw, .ref nk, .int mhasKept, .ref nt, .int mtaped, .ref nr, .int mrowMany, .int mroundOf, .int mroundFrom, .int mouts, .ref nm, .int mfromHour, .int mtoHour, .ref ns, .int mfrom, .int mto, .int msort, .int misFault, .int mdeep, .int mcoded, .int mlines, .ref nl, .ref nc, .ref nF, .ref np, .ref ntr, .ref nb, .int mbestCost, .ref nso, .ref nsi, .ref nit, .ref nsh, .ref nsf, .ref nss, .ref nrc, .int (nI jr16183), .int (nI jd), .int mnumber, .int mwhose, .int msize, .int misParted])), (nrc, .inl (G.2.1, 30, .inl gtrc6184))] H := hP
  have hD : va_D A [(h0, .inr (12, [.ref nw, .ref nk, .int mhasKept, .ref nt, .int mtaped, .ref nr, .int mrowMany, .int mroundOf, .int mroundFrom, .int mouts, .ref nm, .int mfromHour, .int mtoHour, .ref ns, .int mfrom, .int mto, .int msort, .int misFault, .int mdeep, .int mcoded, .int mlines, .ref nl, .ref nc, .ref nF, .ref np, .ref ntr, .ref nb, .int mbestCost, .ref nso, .ref nsi, .ref nit, .ref nsh, .ref nsf, .ref nss, .ref nrc, .int (nI jr16183), .int (nI jd), .int mnumber, .int mwhose, .int msize, .int misParted])), (nrc, .inl (G.2.1, 30, .inl gtrc6184))] := hD
  have w6185 := hr6181
  refine lv_aload_n hx hb dX12_body_131 rfl (lv_at hl 0 rfl) ?_
  refine lv_iconst (v := 0) hx hb dX12_body_132 (by decide) ?_
  refine lv_iload_n hx hb dX12_body_133 rfl (lv_at hl 3 rfl) ?_
  refine iV (wr := []) hC hK hl hP hD hS hA (m_dealt0 l G h0 xx nw nk mhasKept nt mtaped nr mrowMany mroundOf mroundFrom mouts nm mfromHour mtoHour ns mfrom mto msort misFault mdeep mcoded mlines nl nc nF np ntr nb mbestCost nso nsi nit nsh nsf nss nrc jr16183 jd mnumber mwhose msize misParted gtrc6184 (by omega) (by omega)) si_X12_372 [0, 1] [] rfl rfl (by decide) rfl (by decide) (by decide) rfl rfl rfl rfl rfl (Nat.le_of_ble_eq_true rfl) ⟨Nat.le_of_ble_eq_true rfl, Nat.le_of_ble_eq_true rfl⟩ ⟨Nat.le_of_ble_eq_true rfl, Nat.le_of_ble_eq_true rfl⟩ dX12_body_134 (fun r6186 u6187 H locs hr6186 hP hD hS => ?_)
  obtain ⟨jr16188, ip16189, gtrc6190⟩ := u6187
  try dsimp only at hr6186
  have hP : va_P G.1 vwCl [(h0, .inr (12, [.ref nw, .ref nk, .int mhasKept, .ref nt, .int mtaped, .ref nr, .int mrowMany, .int mroundOf, .int mroundFrom, .int mouts, .ref nm, .int mfromHour, .int mtoHour, .ref ns, .int mfrom, .int mto, .int msort, .int misFault, .int mdeep, .int mcoded, .int mlines, .ref nl, .ref nc, .ref nF, .ref np, .ref ntr, .ref nb, .int mbestCost, .ref nso, .ref nsi, .ref nit, .ref nsh, .ref nsf, .ref nss, .ref nrc, .int (nI jr16188), .int (nI jd), .int mnumber, .int mwhose, .int msize, .int ip16189])), (nrc, .inl (G.2.1, 30, .inl gtrc6190))] H := hP
  have hD : va_D A [(h0, .inr (12, [.ref nw, .ref nk, .int mhasKept, .ref nt, .int mtaped, .ref nr, .int mrowMany, .int mroundOf, .int mroundFrom, .int mouts, .ref nm, .int mfromHour, .int mtoHour, .ref ns, .int mfrom, .int mto, .int msort, .int misFault, .int mdeep, .int mcoded, .int mlines, .ref nl, .ref nc, .ref nF, .ref np, .ref ntr, .ref nb, .int mbestCost, .ref nso, .ref nsi, .ref nit, .ref nsh, .ref nsf, .ref nss, .ref nrc, .int (nI jr16188), .int (nI jd), .int mnumber, .int mwhose, .int msize, .int ip16189])), (nrc, .inl (G.2.1, 30, .inl gtrc6190))] := hD
  obtain ⟨hr6186, w6191⟩ := hr6186
  refine lv_iconst (v := 2) hx hb dX12_body_137 (by decide) ?_
  refine lv_imul hx hb dX12_body_138 ?_
  exact RI (v := r6186 * 2) hC hP hD hS [0, 1] (jr16188, ip16189, gtrc6190) rfl rfl (by decide) (⟨trivial, by omega⟩) rfl dX12_body_139
set_option maxHeartbeats 4000000 in
set_option maxRecDepth 100000 in
theorem m_from01 (l : Launch) (G : GG) (h0 : Nat) (xx : Int32) (nw : Nat) (nk : Nat) (mhasKept : Int32) (nt : Nat) (mtaped : Int32) (nr : Nat) (mrowMany : Int32) (mroundOf : Int32) (mroundFrom : Int32) (mouts : Int32) (nm : Nat) (mfromHour : Int32) (mtoHour : Int32) (ns : Nat) (mfrom : Int32) (mto : Int32) (msort : Int32) (misFault : Int32) (mdeep : Int32) (mcoded : Int32) (mlines : Int32) (nl : Nat) (nc : Nat) (nF : Nat) (np : Nat) (ntr : Nat) (nb : Nat) (mbestCost : Int32) (nso : Nat) (nsi : Nat) (nit : Nat) (nsh : Nat) (nsf : Nat) (nss : Nat) (nrc : Nat) (jr : Nat) (jd : Nat) (mnumber : Int32) (mwhose : Int32) (msize : Int32) (misParted : Int32) (fnrc : Nat → Int32) (hjr : jr ≤ 30) (hjd : jd < 7) : MI l G yX12_bodyFrom cX12_bodyFrom 5 (some .int) 16 0 0 [.ref h0, .int 0, .int 1, .int xx] [(h0, .inr (12, [.ref nw, .ref nk, .int mhasKept, .ref nt, .int mtaped, .ref nr, .int mrowMany, .int mroundOf, .int mroundFrom, .int mouts, .ref nm, .int mfromHour, .int mtoHour, .ref ns, .int mfrom, .int mto, .int msort, .int misFault, .int mdeep, .int mcoded, .int mlines, .ref nl, .ref nc, .ref nF, .ref np, .ref ntr, .ref nb, .int mbestCost, .ref nso, .ref nsi, .ref nit, .ref nsh, .ref nsf, .ref nss, .ref nrc, .int (nI jr), .int (nI jd), .int mnumber, .int mwhose, .int msize, .int misParted])), (nrc, .inl (G.2.1, 30, .inl fnrc))] (fun (r : Int32) (u : Nat × Int32 × (Nat → Int32)) => (True) ∧ (u.1 ≤ 30)) (fun u : Nat × Int32 × (Nat → Int32) => [(h0, .inr (12, [.ref nw, .ref nk, .int mhasKept, .ref nt, .int mtaped, .ref nr, .int mrowMany, .int mroundOf, .int mroundFrom, .int mouts, .ref nm, .int mfromHour, .int mtoHour, .ref ns, .int mfrom, .int mto, .int msort, .int misFault, .int mdeep, .int mcoded, .int mlines, .ref nl, .ref nc, .ref nF, .ref np, .ref ntr, .ref nb, .int mbestCost, .ref nso, .ref nsi, .ref nit, .ref nsh, .ref nsf, .ref nss, .ref nrc, .int (nI u.1), .int (nI jd), .int mnumber, .int mwhose, .int msize, .int u.2.1])), (nrc, .inl (G.2.1, 30, .inl u.2.2))]) := by
  refine MI.start (by decide +kernel) (Nat.le_of_ble_eq_true rfl) ?_
  intro p e s m below meth c A ls hC hK hP hD hS hA hl
  have hl : lv_has ls 5 [(0, .ref h0), (1, .int 0), (2, .int 1), (3, .int xx)] := hl
  obtain ⟨hx, hb, hr, hml, hB, hown, hlocks, hnm⟩ := id hC
  refine lv_iload_n hx hb dX12_bodyFrom_0 rfl (lv_at hl 1 rfl) ?_
  refine lv_istore (lv' := [(4, .int 0), (0, .ref h0), (1, .int 0), (2, .int 1), (3, .int xx)]) hx hb dX12_bodyFrom_1 hl (by decide) rfl (fun ls hl => ?_)
  refine lv_iload hx hb dX12_bodyFrom_3 (lv_at hl 0 rfl) ?_
  refine lv_iload_n hx hb dX12_bodyFrom_5 rfl (lv_at hl 3 rfl) ?_
  refine pS hC hK hl (m_hasOwn01 l G) si_X12_360 rfl rfl (Nat.le_of_ble_eq_true rfl) ⟨Nat.le_of_ble_eq_true rfl, Nat.le_of_ble_eq_true rfl⟩ ⟨by first | exact Nat.le_of_ble_eq_true rfl | exact Nat.zero_le _, by first | exact Nat.le_of_ble_eq_true rfl | exact Nat.zero_le _⟩ dX12_bodyFrom_6 (fun r6192 hr6192 => ?_)
  obtain rfl := hr6192
  refine lv_if_ne (tgt := 22) hx hb dX12_bodyFrom_9 (by decide) (fun _ => ?_) (fun c9 => absurd c9 (by decide))
  refine lv_aload_n hx hb dX12_bodyFrom_22 rfl (lv_at hl 1 rfl) ?_
  refine lv_iload hx hb dX12_bodyFrom_23 (lv_at hl 0 rfl) ?_
  refine lv_iload_n hx hb dX12_bodyFrom_25 rfl (lv_at hl 3 rfl) ?_
  refine lv_iload_n hx hb dX12_bodyFrom_26 rfl (lv_at hl 4 rfl) ?_
  refine iV (wr := []) hC hK hl hP hD hS hA (m_body01 l G h0 xx nw nk mhasKept nt mtaped nr mrowMany mroundOf mroundFrom mouts nm mfromHour mtoHour ns mfrom mto msort misFault mdeep mcoded mlines nl nc nF np ntr nb mbestCost nso nsi nit nsh nsf nss nrc jr jd mnumber mwhose msize misParted fnrc (by omega) (by omega)) si_X12_363 [0, 1] [] rfl rfl (by decide) rfl (by decide) (by decide) rfl rfl rfl rfl rfl (Nat.le_of_ble_eq_true rfl) ⟨Nat.le_of_ble_eq_true rfl, Nat.le_of_ble_eq_true rfl⟩ ⟨Nat.le_of_ble_eq_true rfl, Nat.le_of_ble_eq_true rfl⟩ dX12_bodyFrom_27 (fun r6194 u6195 H locs hr6194 hP hD hS => ?_)
  obtain ⟨jr16196, ip16197, gtrc6198⟩ := u6195
  try dsimp only at hr6194
  have hP : va_P G.1 vwCl [(h0, .inr (12, [.ref nw, .ref nk, .int mhasKept, .ref nt, .int mtaped, .ref nr, .int mrowMany, .int mroundOf, .int mroundFrom, .int mouts, .ref nm, .int mfromHour, .int mtoHour, .ref ns, .int mfrom, .int mto, .int msort, .int misFault, .int mdeep, .int mcoded, .int mlines, .ref nl, .ref nc, .ref nF, .ref np, .ref ntr, .ref nb, .int mbestCost, .ref nso, .ref nsi, .ref nit, .ref nsh, .ref nsf, .ref nss, .ref nrc, .int (nI jr16196), .int (nI jd), .int mnumber, .int mwhose, .int msize, .int ip16197])), (nrc, .inl (G.2.1, 30, .inl gtrc6198))] H := hP
  have hD : va_D A [(h0, .inr (12, [.ref nw, .ref nk, .int mhasKept, .ref nt, .int mtaped, .ref nr, .int mrowMany, .int mroundOf, .int mroundFrom, .int mouts, .ref nm, .int mfromHour, .int mtoHour, .ref ns, .int mfrom, .int mto, .int msort, .int misFault, .int mdeep, .int mcoded, .int mlines, .ref nl, .ref nc, .ref nF, .ref np, .ref ntr, .ref nb, .int mbestCost, .ref nso, .ref nsi, .ref nit, .ref nsh, .ref nsf, .ref nss, .ref nrc, .int (nI jr16196), .int (nI jd), .int mnumber, .int mwhose, .int msize, .int ip16197])), (nrc, .inl (G.2.1, 30, .inl gtrc6198))] := hD
  obtain ⟨hr6194, w6199⟩ := hr6194
  exact RI (v := r6194) hC hP hD hS [0, 1] (jr16196, ip16197, gtrc6198) rfl rfl (by decide) (⟨trivial, by omega⟩) rfl dX12_bodyFrom_30
set_option maxHeartbeats 4000000 in
set_option maxRecDepth 100000 in
theorem m_body11 (l : Launch) (G : GG) (h0 : Nat) (xx : Int32) (nw : Nat) (nk : Nat) (mhasKept : Int32) (nt : Nat) (mtaped : Int32) (nr : Nat) (mrowMany : Int32) (mroundOf : Int32) (mroundFrom : Int32) (mouts : Int32) (nm : Nat) (mfromHour : Int32) (mtoHour : Int32) (ns : Nat) (mfrom : Int32) (mto : Int32) (msort : Int32) (misFault : Int32) (mdeep : Int32) (mcoded : Int32) (mlines : Int32) (nl : Nat) (nc : Nat) (nF : Nat) (np : Nat) (ntr : Nat) (nb : Nat) (mbestCost : Int32) (nso : Nat) (nsi : Nat) (nit : Nat) (nsh : Nat) (nsf : Nat) (nss : Nat) (nrc : Nat) (jr : Nat) (jd : Nat) (mnumber : Int32) (mwhose : Int32) (msize : Int32) (misParted : Int32) (fnrc : Nat → Int32) (hjr : jr ≤ 30) (hjd : jd < 7) : MI l G yX12_body cX12_body 6 (some .int) 17 0 0 [.ref h0, .int 1, .int 1, .int xx] [(h0, .inr (12, [.ref nw, .ref nk, .int mhasKept, .ref nt, .int mtaped, .ref nr, .int mrowMany, .int mroundOf, .int mroundFrom, .int mouts, .ref nm, .int mfromHour, .int mtoHour, .ref ns, .int mfrom, .int mto, .int msort, .int misFault, .int mdeep, .int mcoded, .int mlines, .ref nl, .ref nc, .ref nF, .ref np, .ref ntr, .ref nb, .int mbestCost, .ref nso, .ref nsi, .ref nit, .ref nsh, .ref nsf, .ref nss, .ref nrc, .int (nI jr), .int (nI jd), .int mnumber, .int mwhose, .int msize, .int misParted])), (nrc, .inl (G.2.1, 30, .inl fnrc))] (fun (r : Int32) (u : Nat × Int32 × (Nat → Int32)) => (True) ∧ (u.1 ≤ 30)) (fun u : Nat × Int32 × (Nat → Int32) => [(h0, .inr (12, [.ref nw, .ref nk, .int mhasKept, .ref nt, .int mtaped, .ref nr, .int mrowMany, .int mroundOf, .int mroundFrom, .int mouts, .ref nm, .int mfromHour, .int mtoHour, .ref ns, .int mfrom, .int mto, .int msort, .int misFault, .int mdeep, .int mcoded, .int mlines, .ref nl, .ref nc, .ref nF, .ref np, .ref ntr, .ref nb, .int mbestCost, .ref nso, .ref nsi, .ref nit, .ref nsh, .ref nsf, .ref nss, .ref nrc, .int (nI u.1), .int (nI jd), .int mnumber, .int mwhose, .int msize, .int u.2.1])), (nrc, .inl (G.2.1, 30, .inl u.2.2))]) := by
  refine MI.start (by decide +kernel) (Nat.le_of_ble_eq_true rfl) ?_
  intro p e s m below meth c A ls hC hK hP hD hS hA hl
  have hl : lv_has ls 6 [(0, .ref h0), (1, .int 1), (2, .int 1), (3, .int xx)] := hl
  obtain ⟨hx, hb, hr, hml, hB, hown, hlocks, hnm⟩ := id hC
  refine lv_iconst (v := 4) hx hb dX12_body_0 (by decide) ?_
  refine lv_iload_n hx hb dX12_body_1 rfl (lv_at hl 1 rfl) ?_
  refine lv_imul hx hb dX12_body_2 ?_
  refine eqi (x1 := 4) (by decide) ?_
  refine lv_iload_n hx hb dX12_body_3 rfl (lv_at hl 2 rfl) ?_
  refine lv_iadd hx hb dX12_body_4 ?_
  refine eqi (x1 := 5) (by decide) ?_
  refine lv_tableIn (tgt := 207) hx hb dX12_body_5 (by decide) (by decide) rfl (by decide) ?_
  refine lv_aload_n hx hb dX12_body_207 rfl (lv_at hl 0 rfl) ?_
  refine lv_bipush (v := 20) hx hb dX12_body_208 (by decide) ?_
  refine vV (wr := []) hC hK hl hP hD hS hA (m_began l G h0 20 nw nk mhasKept nt mtaped nr mrowMany mroundOf mroundFrom mouts nm mfromHour mtoHour ns mfrom mto msort misFault mdeep mcoded mlines nl nc nF np ntr nb mbestCost nso nsi nit nsh nsf nss nrc jr (nI jd) mnumber mwhose msize misParted fnrc (by omega)) si_X12_366 [0, 1] [] rfl rfl (by decide) rfl (by decide) (by decide) rfl rfl rfl rfl rfl (Nat.le_of_ble_eq_true rfl) ⟨Nat.le_of_ble_eq_true rfl, Nat.le_of_ble_eq_true rfl⟩ ⟨Nat.le_of_ble_eq_true rfl, Nat.le_of_ble_eq_true rfl⟩ dX12_body_210 (fun u6201 H locs hr6200 hP hD hS => ?_)
  obtain ⟨jr16202, gtrc6203⟩ := u6201
  try dsimp only at hr6200
  have hP : va_P G.1 vwCl [(h0, .inr (12, [.ref nw, .ref nk, .int mhasKept, .ref nt, .int mtaped, .ref nr, .int mrowMany, .int mroundOf, .int mroundFrom, .int mouts, .ref nm, .int mfromHour, .int mtoHour, .ref ns, .int mfrom, .int mto, .int msort, .int misFault, .int mdeep, .int mcoded, .int mlines, .ref nl, .ref nc, .ref nF, .ref np, .ref ntr, .ref nb, .int mbestCost, .ref nso, .ref nsi, .ref nit, .ref nsh, .ref nsf, .ref nss, .ref nrc, .int (nI jr16202), .int (nI jd), .int mnumber, .int mwhose, .int msize, .int misParted])), (nrc, .inl (G.2.1, 30, .inl gtrc6203))] H := hP
  have hD : va_D A [(h0, .inr (12, [.ref nw, .ref nk, .int mhasKept, .ref nt, .int mtaped, .ref nr, .int mrowMany, .int mroundOf, .int mroundFrom, .int mouts, .ref nm, .int mfromHour, .int mtoHour, .ref ns, .int mfrom, .int mto, .int msort, .int misFault, .int mdeep, .int mcoded, .int mlines, .ref nl, .ref nc, .ref nF, .ref np, .ref ntr, .ref nb, .int mbestCost, .ref nso, .ref nsi, .ref nit, .ref nsh, .ref nsf, .ref nss, .ref nrc, .int (nI jr16202), .int (nI jd), .int mnumber, .int mwhose, .int msize, .int misParted])), (nrc, .inl (G.2.1, 30, .inl gtrc6203))] := hD
  have w6204 := hr6200
  refine lv_aload_n hx hb dX12_body_213 rfl (lv_at hl 0 rfl) ?_
  refine lv_iconst (v := 0) hx hb dX12_body_214 (by decide) ?_
  refine lv_iconst (v := 1) hx hb dX12_body_215 (by decide) ?_
  refine lv_iload_n hx hb dX12_body_216 rfl (lv_at hl 3 rfl) ?_
  refine iV (wr := []) hC hK hl hP hD hS hA (m_from01 l G h0 xx nw nk mhasKept nt mtaped nr mrowMany mroundOf mroundFrom mouts nm mfromHour mtoHour ns mfrom mto msort misFault mdeep mcoded mlines nl nc nF np ntr nb mbestCost nso nsi nit nsh nsf nss nrc jr16202 jd mnumber mwhose msize misParted gtrc6203 (by omega) (by omega)) si_X12_357 [0, 1] [] rfl rfl (by decide) rfl (by decide) (by decide) rfl rfl rfl rfl rfl (Nat.le_of_ble_eq_true rfl) ⟨Nat.le_of_ble_eq_true rfl, Nat.le_of_ble_eq_true rfl⟩ ⟨Nat.le_of_ble_eq_true rfl, Nat.le_of_ble_eq_true rfl⟩ dX12_body_217 (fun r6205 u6206 H locs hr6205 hP hD hS => ?_)
  obtain ⟨jr16207, ip16208, gtrc6209⟩ := u6206
  try dsimp only at hr6205
  have hP : va_P G.1 vwCl [(h0, .inr (12, [.ref nw, .ref nk, .int mhasKept, .ref nt, .int mtaped, .ref nr, .int mrowMany, .int mroundOf, .int mroundFrom, .int mouts, .ref nm, .int mfromHour, .int mtoHour, .ref ns, .int mfrom, .int mto, .int msort, .int misFault, .int mdeep, .int mcoded, .int mlines, .ref nl, .ref nc, .ref nF, .ref np, .ref ntr, .ref nb, .int mbestCost, .ref nso, .ref nsi, .ref nit, .ref nsh, .ref nsf, .ref nss, .ref nrc, .int (nI jr16207), .int (nI jd), .int mnumber, .int mwhose, .int msize, .int ip16208])), (nrc, .inl (G.2.1, 30, .inl gtrc6209))] H := hP
  have hD : va_D A [(h0, .inr (12, [.ref nw, .ref nk, .int mhasKept, .ref nt, .int mtaped, .ref nr, .int mrowMany, .int mroundOf, .int mroundFrom, .int mouts, .ref nm, .int mfromHour, .int mtoHour, .ref ns, .int mfrom, .int mto, .int msort, .int misFault, .int mdeep, .int mcoded, .int mlines, .ref nl, .ref nc, .ref nF, .ref np, .ref ntr, .ref nb, .int mbestCost, .ref nso, .ref nsi, .ref nit, .ref nsh, .ref nsf, .ref nss, .ref nrc, .int (nI jr16207), .int (nI jd), .int mnumber, .int mwhose, .int msize, .int ip16208])), (nrc, .inl (G.2.1, 30, .inl gtrc6209))] := hD
  obtain ⟨hr6205, w6210⟩ := hr6205
  refine lv_aload_n hx hb dX12_body_220 rfl (lv_at hl 0 rfl) ?_
  refine gf_X12_378 hC rfl hK hP 0 rfl rfl dX12_body_221 ?_
  refine lv_ixor hx hb dX12_body_224 ?_
  exact RI (v := r6205 ^^^ mnumber) hC hP hD hS [0, 1] (jr16207, ip16208, gtrc6209) rfl rfl (by decide) (⟨trivial, by omega⟩) rfl dX12_body_225
set_option maxHeartbeats 4000000 in
set_option maxRecDepth 100000 in
theorem m_from11 (l : Launch) (G : GG) (h0 : Nat) (xx : Int32) (nw : Nat) (nk : Nat) (mhasKept : Int32) (nt : Nat) (mtaped : Int32) (nr : Nat) (mrowMany : Int32) (mroundOf : Int32) (mroundFrom : Int32) (mouts : Int32) (nm : Nat) (mfromHour : Int32) (mtoHour : Int32) (ns : Nat) (mfrom : Int32) (mto : Int32) (msort : Int32) (misFault : Int32) (mdeep : Int32) (mcoded : Int32) (mlines : Int32) (nl : Nat) (nc : Nat) (nF : Nat) (np : Nat) (ntr : Nat) (nb : Nat) (mbestCost : Int32) (nso : Nat) (nsi : Nat) (nit : Nat) (nsh : Nat) (nsf : Nat) (nss : Nat) (nrc : Nat) (jr : Nat) (jd : Nat) (mnumber : Int32) (mwhose : Int32) (msize : Int32) (misParted : Int32) (fnrc : Nat → Int32) (hjr : jr ≤ 30) (hjd : jd < 7) : MI l G yX12_bodyFrom cX12_bodyFrom 5 (some .int) 18 0 0 [.ref h0, .int 1, .int 1, .int xx] [(h0, .inr (12, [.ref nw, .ref nk, .int mhasKept, .ref nt, .int mtaped, .ref nr, .int mrowMany, .int mroundOf, .int mroundFrom, .int mouts, .ref nm, .int mfromHour, .int mtoHour, .ref ns, .int mfrom, .int mto, .int msort, .int misFault, .int mdeep, .int mcoded, .int mlines, .ref nl, .ref nc, .ref nF, .ref np, .ref ntr, .ref nb, .int mbestCost, .ref nso, .ref nsi, .ref nit, .ref nsh, .ref nsf, .ref nss, .ref nrc, .int (nI jr), .int (nI jd), .int mnumber, .int mwhose, .int msize, .int misParted])), (nrc, .inl (G.2.1, 30, .inl fnrc))] (fun (r : Int32) (u : Nat × Int32 × (Nat → Int32)) => (True) ∧ (u.1 ≤ 30)) (fun u : Nat × Int32 × (Nat → Int32) => [(h0, .inr (12, [.ref nw, .ref nk, .int mhasKept, .ref nt, .int mtaped, .ref nr, .int mrowMany, .int mroundOf, .int mroundFrom, .int mouts, .ref nm, .int mfromHour, .int mtoHour, .ref ns, .int mfrom, .int mto, .int msort, .int misFault, .int mdeep, .int mcoded, .int mlines, .ref nl, .ref nc, .ref nF, .ref np, .ref ntr, .ref nb, .int mbestCost, .ref nso, .ref nsi, .ref nit, .ref nsh, .ref nsf, .ref nss, .ref nrc, .int (nI u.1), .int (nI jd), .int mnumber, .int mwhose, .int msize, .int u.2.1])), (nrc, .inl (G.2.1, 30, .inl u.2.2))]) := by
  refine MI.start (by decide +kernel) (Nat.le_of_ble_eq_true rfl) ?_
  intro p e s m below meth c A ls hC hK hP hD hS hA hl
  have hl : lv_has ls 5 [(0, .ref h0), (1, .int 1), (2, .int 1), (3, .int xx)] := hl
  obtain ⟨hx, hb, hr, hml, hB, hown, hlocks, hnm⟩ := id hC
  refine lv_iload_n hx hb dX12_bodyFrom_0 rfl (lv_at hl 1 rfl) ?_
  refine lv_istore (lv' := [(4, .int 1), (0, .ref h0), (1, .int 1), (2, .int 1), (3, .int xx)]) hx hb dX12_bodyFrom_1 hl (by decide) rfl (fun ls hl => ?_)
  refine lv_iload hx hb dX12_bodyFrom_3 (lv_at hl 0 rfl) ?_
  refine lv_iload_n hx hb dX12_bodyFrom_5 rfl (lv_at hl 3 rfl) ?_
  refine pS hC hK hl (m_hasOwn11 l G) si_X12_360 rfl rfl (Nat.le_of_ble_eq_true rfl) ⟨Nat.le_of_ble_eq_true rfl, Nat.le_of_ble_eq_true rfl⟩ ⟨by first | exact Nat.le_of_ble_eq_true rfl | exact Nat.zero_le _, by first | exact Nat.le_of_ble_eq_true rfl | exact Nat.zero_le _⟩ dX12_bodyFrom_6 (fun r6211 hr6211 => ?_)
  obtain rfl := hr6211
  refine lv_if_ne (tgt := 22) hx hb dX12_bodyFrom_9 (by decide) (fun _ => ?_) (fun c9 => absurd c9 (by decide))
  refine lv_aload_n hx hb dX12_bodyFrom_22 rfl (lv_at hl 1 rfl) ?_
  refine lv_iload hx hb dX12_bodyFrom_23 (lv_at hl 0 rfl) ?_
  refine lv_iload_n hx hb dX12_bodyFrom_25 rfl (lv_at hl 3 rfl) ?_
  refine lv_iload_n hx hb dX12_bodyFrom_26 rfl (lv_at hl 4 rfl) ?_
  refine iV (wr := []) hC hK hl hP hD hS hA (m_body11 l G h0 xx nw nk mhasKept nt mtaped nr mrowMany mroundOf mroundFrom mouts nm mfromHour mtoHour ns mfrom mto msort misFault mdeep mcoded mlines nl nc nF np ntr nb mbestCost nso nsi nit nsh nsf nss nrc jr jd mnumber mwhose msize misParted fnrc (by omega) (by omega)) si_X12_363 [0, 1] [] rfl rfl (by decide) rfl (by decide) (by decide) rfl rfl rfl rfl rfl (Nat.le_of_ble_eq_true rfl) ⟨Nat.le_of_ble_eq_true rfl, Nat.le_of_ble_eq_true rfl⟩ ⟨Nat.le_of_ble_eq_true rfl, Nat.le_of_ble_eq_true rfl⟩ dX12_bodyFrom_27 (fun r6213 u6214 H locs hr6213 hP hD hS => ?_)
  obtain ⟨jr16215, ip16216, gtrc6217⟩ := u6214
  try dsimp only at hr6213
  have hP : va_P G.1 vwCl [(h0, .inr (12, [.ref nw, .ref nk, .int mhasKept, .ref nt, .int mtaped, .ref nr, .int mrowMany, .int mroundOf, .int mroundFrom, .int mouts, .ref nm, .int mfromHour, .int mtoHour, .ref ns, .int mfrom, .int mto, .int msort, .int misFault, .int mdeep, .int mcoded, .int mlines, .ref nl, .ref nc, .ref nF, .ref np, .ref ntr, .ref nb, .int mbestCost, .ref nso, .ref nsi, .ref nit, .ref nsh, .ref nsf, .ref nss, .ref nrc, .int (nI jr16215), .int (nI jd), .int mnumber, .int mwhose, .int msize, .int ip16216])), (nrc, .inl (G.2.1, 30, .inl gtrc6217))] H := hP
  have hD : va_D A [(h0, .inr (12, [.ref nw, .ref nk, .int mhasKept, .ref nt, .int mtaped, .ref nr, .int mrowMany, .int mroundOf, .int mroundFrom, .int mouts, .ref nm, .int mfromHour, .int mtoHour, .ref ns, .int mfrom, .int mto, .int msort, .int misFault, .int mdeep, .int mcoded, .int mlines, .ref nl, .ref nc, .ref nF, .ref np, .ref ntr, .ref nb, .int mbestCost, .ref nso, .ref nsi, .ref nit, .ref nsh, .ref nsf, .ref nss, .ref nrc, .int (nI jr16215), .int (nI jd), .int mnumber, .int mwhose, .int msize, .int ip16216])), (nrc, .inl (G.2.1, 30, .inl gtrc6217))] := hD
  obtain ⟨hr6213, w6218⟩ := hr6213
  exact RI (v := r6213) hC hP hD hS [0, 1] (jr16215, ip16216, gtrc6217) rfl rfl (by decide) (⟨trivial, by omega⟩) rfl dX12_bodyFrom_30
set_option maxHeartbeats 4000000 in
set_option maxRecDepth 100000 in
theorem m_body31 (l : Launch) (G : GG) (h0 : Nat) (xx : Int32) (nw : Nat) (nk : Nat) (mhasKept : Int32) (nt : Nat) (mtaped : Int32) (nr : Nat) (mrowMany : Int32) (mroundOf : Int32) (mroundFrom : Int32) (mouts : Int32) (nm : Nat) (mfromHour : Int32) (mtoHour : Int32) (ns : Nat) (mfrom : Int32) (mto : Int32) (msort : Int32) (misFault : Int32) (mdeep : Int32) (mcoded : Int32) (mlines : Int32) (nl : Nat) (nc : Nat) (nF : Nat) (np : Nat) (ntr : Nat) (nb : Nat) (mbestCost : Int32) (nso : Nat) (nsi : Nat) (nit : Nat) (nsh : Nat) (nsf : Nat) (nss : Nat) (nrc : Nat) (jr : Nat) (jd : Nat) (mnumber : Int32) (mwhose : Int32) (msize : Int32) (misParted : Int32) (fnrc : Nat → Int32) (hjr : jr ≤ 30) (hjd : jd < 7) : MI l G yX12_body cX12_body 6 (some .int) 19 0 0 [.ref h0, .int 3, .int 1, .int xx] [(h0, .inr (12, [.ref nw, .ref nk, .int mhasKept, .ref nt, .int mtaped, .ref nr, .int mrowMany, .int mroundOf, .int mroundFrom, .int mouts, .ref nm, .int mfromHour, .int mtoHour, .ref ns, .int mfrom, .int mto, .int msort, .int misFault, .int mdeep, .int mcoded, .int mlines, .ref nl, .ref nc, .ref nF, .ref np, .ref ntr, .ref nb, .int mbestCost, .ref nso, .ref nsi, .ref nit, .ref nsh, .ref nsf, .ref nss, .ref nrc, .int (nI jr), .int (nI jd), .int mnumber, .int mwhose, .int msize, .int misParted])), (nrc, .inl (G.2.1, 30, .inl fnrc))] (fun (r : Int32) (u : Nat × Int32 × (Nat → Int32)) => (True) ∧ (u.1 ≤ 30)) (fun u : Nat × Int32 × (Nat → Int32) => [(h0, .inr (12, [.ref nw, .ref nk, .int mhasKept, .ref nt, .int mtaped, .ref nr, .int mrowMany, .int mroundOf, .int mroundFrom, .int mouts, .ref nm, .int mfromHour, .int mtoHour, .ref ns, .int mfrom, .int mto, .int msort, .int misFault, .int mdeep, .int mcoded, .int mlines, .ref nl, .ref nc, .ref nF, .ref np, .ref ntr, .ref nb, .int mbestCost, .ref nso, .ref nsi, .ref nit, .ref nsh, .ref nsf, .ref nss, .ref nrc, .int (nI u.1), .int (nI jd), .int mnumber, .int mwhose, .int msize, .int u.2.1])), (nrc, .inl (G.2.1, 30, .inl u.2.2))]) := by
  refine MI.start (by decide +kernel) (Nat.le_of_ble_eq_true rfl) ?_
  intro p e s m below meth c A ls hC hK hP hD hS hA hl
  have hl : lv_has ls 6 [(0, .ref h0), (1, .int 3), (2, .int 1), (3, .int xx)] := hl
  obtain ⟨hx, hb, hr, hml, hB, hown, hlocks, hnm⟩ := id hC
  refine lv_iconst (v := 4) hx hb dX12_body_0 (by decide) ?_
  refine lv_iload_n hx hb dX12_body_1 rfl (lv_at hl 1 rfl) ?_
  refine lv_imul hx hb dX12_body_2 ?_
  refine eqi (x1 := 12) (by decide) ?_
  refine lv_iload_n hx hb dX12_body_3 rfl (lv_at hl 2 rfl) ?_
  refine lv_iadd hx hb dX12_body_4 ?_
  refine eqi (x1 := 13) (by decide) ?_
  refine lv_tableIn (tgt := 242) hx hb dX12_body_5 (by decide) (by decide) rfl (by decide) ?_
  refine lv_aload_n hx hb dX12_body_242 rfl (lv_at hl 0 rfl) ?_
  refine lv_bipush (v := 40) hx hb dX12_body_243 (by decide) ?_
  refine vV (wr := []) hC hK hl hP hD hS hA (m_began l G h0 40 nw nk mhasKept nt mtaped nr mrowMany mroundOf mroundFrom mouts nm mfromHour mtoHour ns mfrom mto msort misFault mdeep mcoded mlines nl nc nF np ntr nb mbestCost nso nsi nit nsh nsf nss nrc jr (nI jd) mnumber mwhose msize misParted fnrc (by omega)) si_X12_366 [0, 1] [] rfl rfl (by decide) rfl (by decide) (by decide) rfl rfl rfl rfl rfl (Nat.le_of_ble_eq_true rfl) ⟨Nat.le_of_ble_eq_true rfl, Nat.le_of_ble_eq_true rfl⟩ ⟨Nat.le_of_ble_eq_true rfl, Nat.le_of_ble_eq_true rfl⟩ dX12_body_245 (fun u6220 H locs hr6219 hP hD hS => ?_)
  obtain ⟨jr16221, gtrc6222⟩ := u6220
  try dsimp only at hr6219
  have hP : va_P G.1 vwCl [(h0, .inr (12, [.ref nw, .ref nk, .int mhasKept, .ref nt, .int mtaped, .ref nr, .int mrowMany, .int mroundOf, .int mroundFrom, .int mouts, .ref nm, .int mfromHour, .int mtoHour, .ref ns, .int mfrom, .int mto, .int msort, .int misFault, .int mdeep, .int mcoded, .int mlines, .ref nl, .ref nc, .ref nF, .ref np, .ref ntr, .ref nb, .int mbestCost, .ref nso, .ref nsi, .ref nit, .ref nsh, .ref nsf, .ref nss, .ref nrc, .int (nI jr16221), .int (nI jd), .int mnumber, .int mwhose, .int msize, .int misParted])), (nrc, .inl (G.2.1, 30, .inl gtrc6222))] H := hP
  have hD : va_D A [(h0, .inr (12, [.ref nw, .ref nk, .int mhasKept, .ref nt, .int mtaped, .ref nr, .int mrowMany, .int mroundOf, .int mroundFrom, .int mouts, .ref nm, .int mfromHour, .int mtoHour, .ref ns, .int mfrom, .int mto, .int msort, .int misFault, .int mdeep, .int mcoded, .int mlines, .ref nl, .ref nc, .ref nF, .ref np, .ref ntr, .ref nb, .int mbestCost, .ref nso, .ref nsi, .ref nit, .ref nsh, .ref nsf, .ref nss, .ref nrc, .int (nI jr16221), .int (nI jd), .int mnumber, .int mwhose, .int msize, .int misParted])), (nrc, .inl (G.2.1, 30, .inl gtrc6222))] := hD
  have w6223 := hr6219
  refine lv_iconst (v := 0) hx hb dX12_body_248 (by decide) ?_
  refine lv_aload_n hx hb dX12_body_249 rfl (lv_at hl 0 rfl) ?_
  refine lv_iconst (v := 1) hx hb dX12_body_250 (by decide) ?_
  refine lv_iconst (v := 1) hx hb dX12_body_251 (by decide) ?_
  refine lv_iload_n hx hb dX12_body_252 rfl (lv_at hl 3 rfl) ?_
  refine iV (wr := []) hC hK hl hP hD hS hA (m_from11 l G h0 xx nw nk mhasKept nt mtaped nr mrowMany mroundOf mroundFrom mouts nm mfromHour mtoHour ns mfrom mto msort misFault mdeep mcoded mlines nl nc nF np ntr nb mbestCost nso nsi nit nsh nsf nss nrc jr16221 jd mnumber mwhose msize misParted gtrc6222 (by omega) (by omega)) si_X12_357 [0, 1] [] rfl rfl (by decide) rfl (by decide) (by decide) rfl rfl rfl rfl rfl (Nat.le_of_ble_eq_true rfl) ⟨Nat.le_of_ble_eq_true rfl, Nat.le_of_ble_eq_true rfl⟩ ⟨Nat.le_of_ble_eq_true rfl, Nat.le_of_ble_eq_true rfl⟩ dX12_body_253 (fun r6224 u6225 H locs hr6224 hP hD hS => ?_)
  obtain ⟨jr16226, ip16227, gtrc6228⟩ := u6225
  try dsimp only at hr6224
  have hP : va_P G.1 vwCl [(h0, .inr (12, [.ref nw, .ref nk, .int mhasKept, .ref nt, .int mtaped, .ref nr, .int mrowMany, .int mroundOf, .int mroundFrom, .int mouts, .ref nm, .int mfromHour, .int mtoHour, .ref ns, .int mfrom, .int mto, .int msort, .int misFault, .int mdeep, .int mcoded, .int mlines, .ref nl, .ref nc, .ref nF, .ref np, .ref ntr, .ref nb, .int mbestCost, .ref nso, .ref nsi, .ref nit, .ref nsh, .ref nsf, .ref nss, .ref nrc, .int (nI jr16226), .int (nI jd), .int mnumber, .int mwhose, .int msize, .int ip16227])), (nrc, .inl (G.2.1, 30, .inl gtrc6228))] H := hP
  have hD : va_D A [(h0, .inr (12, [.ref nw, .ref nk, .int mhasKept, .ref nt, .int mtaped, .ref nr, .int mrowMany, .int mroundOf, .int mroundFrom, .int mouts, .ref nm, .int mfromHour, .int mtoHour, .ref ns, .int mfrom, .int mto, .int msort, .int misFault, .int mdeep, .int mcoded, .int mlines, .ref nl, .ref nc, .ref nF, .ref np, .ref ntr, .ref nb, .int mbestCost, .ref nso, .ref nsi, .ref nit, .ref nsh, .ref nsf, .ref nss, .ref nrc, .int (nI jr16226), .int (nI jd), .int mnumber, .int mwhose, .int msize, .int ip16227])), (nrc, .inl (G.2.1, 30, .inl gtrc6228))] := hD
  obtain ⟨hr6224, w6229⟩ := hr6224
  refine lv_isub hx hb dX12_body_256 ?_
  exact RI (v := 0 - r6224) hC hP hD hS [0, 1] (jr16226, ip16227, gtrc6228) rfl rfl (by decide) (⟨trivial, by omega⟩) rfl dX12_body_257
set_option maxHeartbeats 4000000 in
set_option maxRecDepth 100000 in
theorem m_from31 (l : Launch) (G : GG) (h0 : Nat) (xx : Int32) (nw : Nat) (nk : Nat) (mhasKept : Int32) (nt : Nat) (mtaped : Int32) (nr : Nat) (mrowMany : Int32) (mroundOf : Int32) (mroundFrom : Int32) (mouts : Int32) (nm : Nat) (mfromHour : Int32) (mtoHour : Int32) (ns : Nat) (mfrom : Int32) (mto : Int32) (msort : Int32) (misFault : Int32) (mdeep : Int32) (mcoded : Int32) (mlines : Int32) (nl : Nat) (nc : Nat) (nF : Nat) (np : Nat) (ntr : Nat) (nb : Nat) (mbestCost : Int32) (nso : Nat) (nsi : Nat) (nit : Nat) (nsh : Nat) (nsf : Nat) (nss : Nat) (nrc : Nat) (jr : Nat) (jd : Nat) (mnumber : Int32) (mwhose : Int32) (msize : Int32) (misParted : Int32) (fnrc : Nat → Int32) (hjr : jr ≤ 30) (hjd : jd < 7) : MI l G yX12_bodyFrom cX12_bodyFrom 5 (some .int) 20 0 0 [.ref h0, .int 3, .int 1, .int xx] [(h0, .inr (12, [.ref nw, .ref nk, .int mhasKept, .ref nt, .int mtaped, .ref nr, .int mrowMany, .int mroundOf, .int mroundFrom, .int mouts, .ref nm, .int mfromHour, .int mtoHour, .ref ns, .int mfrom, .int mto, .int msort, .int misFault, .int mdeep, .int mcoded, .int mlines, .ref nl, .ref nc, .ref nF, .ref np, .ref ntr, .ref nb, .int mbestCost, .ref nso, .ref nsi, .ref nit, .ref nsh, .ref nsf, .ref nss, .ref nrc, .int (nI jr), .int (nI jd), .int mnumber, .int mwhose, .int msize, .int misParted])), (nrc, .inl (G.2.1, 30, .inl fnrc))] (fun (r : Int32) (u : Nat × Int32 × (Nat → Int32)) => (True) ∧ (u.1 ≤ 30)) (fun u : Nat × Int32 × (Nat → Int32) => [(h0, .inr (12, [.ref nw, .ref nk, .int mhasKept, .ref nt, .int mtaped, .ref nr, .int mrowMany, .int mroundOf, .int mroundFrom, .int mouts, .ref nm, .int mfromHour, .int mtoHour, .ref ns, .int mfrom, .int mto, .int msort, .int misFault, .int mdeep, .int mcoded, .int mlines, .ref nl, .ref nc, .ref nF, .ref np, .ref ntr, .ref nb, .int mbestCost, .ref nso, .ref nsi, .ref nit, .ref nsh, .ref nsf, .ref nss, .ref nrc, .int (nI u.1), .int (nI jd), .int mnumber, .int mwhose, .int msize, .int u.2.1])), (nrc, .inl (G.2.1, 30, .inl u.2.2))]) := by
  refine MI.start (by decide +kernel) (Nat.le_of_ble_eq_true rfl) ?_
  intro p e s m below meth c A ls hC hK hP hD hS hA hl
  have hl : lv_has ls 5 [(0, .ref h0), (1, .int 3), (2, .int 1), (3, .int xx)] := hl
  obtain ⟨hx, hb, hr, hml, hB, hown, hlocks, hnm⟩ := id hC
  refine lv_iload_n hx hb dX12_bodyFrom_0 rfl (lv_at hl 1 rfl) ?_
  refine lv_istore (lv' := [(4, .int 3), (0, .ref h0), (1, .int 3), (2, .int 1), (3, .int xx)]) hx hb dX12_bodyFrom_1 hl (by decide) rfl (fun ls hl => ?_)
  refine lv_iload hx hb dX12_bodyFrom_3 (lv_at hl 0 rfl) ?_
  refine lv_iload_n hx hb dX12_bodyFrom_5 rfl (lv_at hl 3 rfl) ?_
  refine pS hC hK hl (m_hasOwn31 l G) si_X12_360 rfl rfl (Nat.le_of_ble_eq_true rfl) ⟨Nat.le_of_ble_eq_true rfl, Nat.le_of_ble_eq_true rfl⟩ ⟨by first | exact Nat.le_of_ble_eq_true rfl | exact Nat.zero_le _, by first | exact Nat.le_of_ble_eq_true rfl | exact Nat.zero_le _⟩ dX12_bodyFrom_6 (fun r6230 hr6230 => ?_)
  obtain rfl := hr6230
  refine lv_if_ne (tgt := 22) hx hb dX12_bodyFrom_9 (by decide) (fun _ => ?_) (fun c9 => absurd c9 (by decide))
  refine lv_aload_n hx hb dX12_bodyFrom_22 rfl (lv_at hl 1 rfl) ?_
  refine lv_iload hx hb dX12_bodyFrom_23 (lv_at hl 0 rfl) ?_
  refine lv_iload_n hx hb dX12_bodyFrom_25 rfl (lv_at hl 3 rfl) ?_
  refine lv_iload_n hx hb dX12_bodyFrom_26 rfl (lv_at hl 4 rfl) ?_
  refine iV (wr := []) hC hK hl hP hD hS hA (m_body31 l G h0 xx nw nk mhasKept nt mtaped nr mrowMany mroundOf mroundFrom mouts nm mfromHour mtoHour ns mfrom mto msort misFault mdeep mcoded mlines nl nc nF np ntr nb mbestCost nso nsi nit nsh nsf nss nrc jr jd mnumber mwhose msize misParted fnrc (by omega) (by omega)) si_X12_363 [0, 1] [] rfl rfl (by decide) rfl (by decide) (by decide) rfl rfl rfl rfl rfl (Nat.le_of_ble_eq_true rfl) ⟨Nat.le_of_ble_eq_true rfl, Nat.le_of_ble_eq_true rfl⟩ ⟨Nat.le_of_ble_eq_true rfl, Nat.le_of_ble_eq_true rfl⟩ dX12_bodyFrom_27 (fun r6232 u6233 H locs hr6232 hP hD hS => ?_)
  obtain ⟨jr16234, ip16235, gtrc6236⟩ := u6233
  try dsimp only at hr6232
  have hP : va_P G.1 vwCl [(h0, .inr (12, [.ref nw, .ref nk, .int mhasKept, .ref nt, .int mtaped, .ref nr, .int mrowMany, .int mroundOf, .int mroundFrom, .int mouts, .ref nm, .int mfromHour, .int mtoHour, .ref ns, .int mfrom, .int mto, .int msort, .int misFault, .int mdeep, .int mcoded, .int mlines, .ref nl, .ref nc, .ref nF, .ref np, .ref ntr, .ref nb, .int mbestCost, .ref nso, .ref nsi, .ref nit, .ref nsh, .ref nsf, .ref nss, .ref nrc, .int (nI jr16234), .int (nI jd), .int mnumber, .int mwhose, .int msize, .int ip16235])), (nrc, .inl (G.2.1, 30, .inl gtrc6236))] H := hP
  have hD : va_D A [(h0, .inr (12, [.ref nw, .ref nk, .int mhasKept, .ref nt, .int mtaped, .ref nr, .int mrowMany, .int mroundOf, .int mroundFrom, .int mouts, .ref nm, .int mfromHour, .int mtoHour, .ref ns, .int mfrom, .int mto, .int msort, .int misFault, .int mdeep, .int mcoded, .int mlines, .ref nl, .ref nc, .ref nF, .ref np, .ref ntr, .ref nb, .int mbestCost, .ref nso, .ref nsi, .ref nit, .ref nsh, .ref nsf, .ref nss, .ref nrc, .int (nI jr16234), .int (nI jd), .int mnumber, .int mwhose, .int msize, .int ip16235])), (nrc, .inl (G.2.1, 30, .inl gtrc6236))] := hD
  obtain ⟨hr6232, w6237⟩ := hr6232
  exact RI (v := r6232) hC hP hD hS [0, 1] (jr16234, ip16235, gtrc6236) rfl rfl (by decide) (⟨trivial, by omega⟩) rfl dX12_bodyFrom_30
set_option maxHeartbeats 4000000 in
set_option maxRecDepth 100000 in
theorem m_from21 (l : Launch) (G : GG) (h0 : Nat) (xx : Int32) (nw : Nat) (nk : Nat) (mhasKept : Int32) (nt : Nat) (mtaped : Int32) (nr : Nat) (mrowMany : Int32) (mroundOf : Int32) (mroundFrom : Int32) (mouts : Int32) (nm : Nat) (mfromHour : Int32) (mtoHour : Int32) (ns : Nat) (mfrom : Int32) (mto : Int32) (msort : Int32) (misFault : Int32) (mdeep : Int32) (mcoded : Int32) (mlines : Int32) (nl : Nat) (nc : Nat) (nF : Nat) (np : Nat) (ntr : Nat) (nb : Nat) (mbestCost : Int32) (nso : Nat) (nsi : Nat) (nit : Nat) (nsh : Nat) (nsf : Nat) (nss : Nat) (nrc : Nat) (jr : Nat) (jd : Nat) (mnumber : Int32) (mwhose : Int32) (msize : Int32) (misParted : Int32) (fnrc : Nat → Int32) (hjr : jr ≤ 30) (hjd : jd < 7) : MI l G yX12_bodyFrom cX12_bodyFrom 5 (some .int) 24 0 0 [.ref h0, .int 2, .int 1, .int xx] [(h0, .inr (12, [.ref nw, .ref nk, .int mhasKept, .ref nt, .int mtaped, .ref nr, .int mrowMany, .int mroundOf, .int mroundFrom, .int mouts, .ref nm, .int mfromHour, .int mtoHour, .ref ns, .int mfrom, .int mto, .int msort, .int misFault, .int mdeep, .int mcoded, .int mlines, .ref nl, .ref nc, .ref nF, .ref np, .ref ntr, .ref nb, .int mbestCost, .ref nso, .ref nsi, .ref nit, .ref nsh, .ref nsf, .ref nss, .ref nrc, .int (nI jr), .int (nI jd), .int mnumber, .int mwhose, .int msize, .int misParted])), (nrc, .inl (G.2.1, 30, .inl fnrc))] (fun (r : Int32) (u : Nat × Int32 × (Nat → Int32)) => (True) ∧ (u.1 ≤ 30)) (fun u : Nat × Int32 × (Nat → Int32) => [(h0, .inr (12, [.ref nw, .ref nk, .int mhasKept, .ref nt, .int mtaped, .ref nr, .int mrowMany, .int mroundOf, .int mroundFrom, .int mouts, .ref nm, .int mfromHour, .int mtoHour, .ref ns, .int mfrom, .int mto, .int msort, .int misFault, .int mdeep, .int mcoded, .int mlines, .ref nl, .ref nc, .ref nF, .ref np, .ref ntr, .ref nb, .int mbestCost, .ref nso, .ref nsi, .ref nit, .ref nsh, .ref nsf, .ref nss, .ref nrc, .int (nI u.1), .int (nI jd), .int mnumber, .int mwhose, .int msize, .int u.2.1])), (nrc, .inl (G.2.1, 30, .inl u.2.2))]) := by
  refine MI.start (by decide +kernel) (Nat.le_of_ble_eq_true rfl) ?_
  intro p e s m below meth c A ls hC hK hP hD hS hA hl
  have hl : lv_has ls 5 [(0, .ref h0), (1, .int 2), (2, .int 1), (3, .int xx)] := hl
  obtain ⟨hx, hb, hr, hml, hB, hown, hlocks, hnm⟩ := id hC
  refine lv_iload_n hx hb dX12_bodyFrom_0 rfl (lv_at hl 1 rfl) ?_
  refine lv_istore (lv' := [(4, .int 2), (0, .ref h0), (1, .int 2), (2, .int 1), (3, .int xx)]) hx hb dX12_bodyFrom_1 hl (by decide) rfl (fun ls hl => ?_)
  refine lv_iload hx hb dX12_bodyFrom_3 (lv_at hl 0 rfl) ?_
  refine lv_iload_n hx hb dX12_bodyFrom_5 rfl (lv_at hl 3 rfl) ?_
  refine pS hC hK hl (m_hasOwn21 l G) si_X12_360 rfl rfl (Nat.le_of_ble_eq_true rfl) ⟨Nat.le_of_ble_eq_true rfl, Nat.le_of_ble_eq_true rfl⟩ ⟨by first | exact Nat.le_of_ble_eq_true rfl | exact Nat.zero_le _, by first | exact Nat.le_of_ble_eq_true rfl | exact Nat.zero_le _⟩ dX12_bodyFrom_6 (fun r6238 hr6238 => ?_)
  obtain rfl := hr6238
  refine lv_if_ne (tgt := 22) hx hb dX12_bodyFrom_9 (by decide) (fun c9 => absurd (by decide) c9) (fun _ => ?_)
  refine lv_iload hx hb dX12_bodyFrom_12 (lv_at hl 0 rfl) ?_
  refine pS hC hK hl (m_above2 l G) si_X12_348 rfl rfl (Nat.le_of_ble_eq_true rfl) ⟨Nat.le_of_ble_eq_true rfl, Nat.le_of_ble_eq_true rfl⟩ ⟨by first | exact Nat.le_of_ble_eq_true rfl | exact Nat.zero_le _, by first | exact Nat.le_of_ble_eq_true rfl | exact Nat.zero_le _⟩ dX12_bodyFrom_14 (fun r6240 hr6240 => ?_)
  obtain rfl := hr6240
  refine lv_istore (lv' := [(4, .int 0), (0, .ref h0), (1, .int 2), (2, .int 1), (3, .int xx)]) hx hb dX12_bodyFrom_17 hl (by decide) rfl (fun ls hl => ?_)
  refine lv_goto (tgt := 3) hx hb dX12_bodyFrom_19 (by decide) ?_
  refine lv_iload hx hb dX12_bodyFrom_3 (lv_at hl 0 rfl) ?_
  refine lv_iload_n hx hb dX12_bodyFrom_5 rfl (lv_at hl 3 rfl) ?_
  refine pS hC hK hl (m_hasOwn01 l G) si_X12_360 rfl rfl (Nat.le_of_ble_eq_true rfl) ⟨Nat.le_of_ble_eq_true rfl, Nat.le_of_ble_eq_true rfl⟩ ⟨by first | exact Nat.le_of_ble_eq_true rfl | exact Nat.zero_le _, by first | exact Nat.le_of_ble_eq_true rfl | exact Nat.zero_le _⟩ dX12_bodyFrom_6 (fun r6242 hr6242 => ?_)
  obtain rfl := hr6242
  refine lv_if_ne (tgt := 22) hx hb dX12_bodyFrom_9 (by decide) (fun _ => ?_) (fun c9 => absurd c9 (by decide))
  refine lv_aload_n hx hb dX12_bodyFrom_22 rfl (lv_at hl 1 rfl) ?_
  refine lv_iload hx hb dX12_bodyFrom_23 (lv_at hl 0 rfl) ?_
  refine lv_iload_n hx hb dX12_bodyFrom_25 rfl (lv_at hl 3 rfl) ?_
  refine lv_iload_n hx hb dX12_bodyFrom_26 rfl (lv_at hl 4 rfl) ?_
  refine iV (wr := []) hC hK hl hP hD hS hA (m_body01 l G h0 xx nw nk mhasKept nt mtaped nr mrowMany mroundOf mroundFrom mouts nm mfromHour mtoHour ns mfrom mto msort misFault mdeep mcoded mlines nl nc nF np ntr nb mbestCost nso nsi nit nsh nsf nss nrc jr jd mnumber mwhose msize misParted fnrc (by omega) (by omega)) si_X12_363 [0, 1] [] rfl rfl (by decide) rfl (by decide) (by decide) rfl rfl rfl rfl rfl (Nat.le_of_ble_eq_true rfl) ⟨Nat.le_of_ble_eq_true rfl, Nat.le_of_ble_eq_true rfl⟩ ⟨Nat.le_of_ble_eq_true rfl, Nat.le_of_ble_eq_true rfl⟩ dX12_bodyFrom_27 (fun r6244 u6245 H locs hr6244 hP hD hS => ?_)
  obtain ⟨jr16246, ip16247, gtrc6248⟩ := u6245
  try dsimp only at hr6244
  have hP : va_P G.1 vwCl [(h0, .inr (12, [.ref nw, .ref nk, .int mhasKept, .ref nt, .int mtaped, .ref nr, .int mrowMany, .int mroundOf, .int mroundFrom, .int mouts, .ref nm, .int mfromHour, .int mtoHour, .ref ns, .int mfrom, .int mto, .int msort, .int misFault, .int mdeep, .int mcoded, .int mlines, .ref nl, .ref nc, .ref nF, .ref np, .ref ntr, .ref nb, .int mbestCost, .ref nso, .ref nsi, .ref nit, .ref nsh, .ref nsf, .ref nss, .ref nrc, .int (nI jr16246), .int (nI jd), .int mnumber, .int mwhose, .int msize, .int ip16247])), (nrc, .inl (G.2.1, 30, .inl gtrc6248))] H := hP
  have hD : va_D A [(h0, .inr (12, [.ref nw, .ref nk, .int mhasKept, .ref nt, .int mtaped, .ref nr, .int mrowMany, .int mroundOf, .int mroundFrom, .int mouts, .ref nm, .int mfromHour, .int mtoHour, .ref ns, .int mfrom, .int mto, .int msort, .int misFault, .int mdeep, .int mcoded, .int mlines, .ref nl, .ref nc, .ref nF, .ref np, .ref ntr, .ref nb, .int mbestCost, .ref nso, .ref nsi, .ref nit, .ref nsh, .ref nsf, .ref nss, .ref nrc, .int (nI jr16246), .int (nI jd), .int mnumber, .int mwhose, .int msize, .int ip16247])), (nrc, .inl (G.2.1, 30, .inl gtrc6248))] := hD
  obtain ⟨hr6244, w6249⟩ := hr6244
  exact RI (v := r6244) hC hP hD hS [0, 1] (jr16246, ip16247, gtrc6248) rfl rfl (by decide) (⟨trivial, by omega⟩) rfl dX12_bodyFrom_30
set_option maxHeartbeats 4000000 in
set_option maxRecDepth 100000 in
theorem m_from41 (l : Launch) (G : GG) (h0 : Nat) (xx : Int32) (nw : Nat) (nk : Nat) (mhasKept : Int32) (nt : Nat) (mtaped : Int32) (nr : Nat) (mrowMany : Int32) (mroundOf : Int32) (mroundFrom : Int32) (mouts : Int32) (nm : Nat) (mfromHour : Int32) (mtoHour : Int32) (ns : Nat) (mfrom : Int32) (mto : Int32) (msort : Int32) (misFault : Int32) (mdeep : Int32) (mcoded : Int32) (mlines : Int32) (nl : Nat) (nc : Nat) (nF : Nat) (np : Nat) (ntr : Nat) (nb : Nat) (mbestCost : Int32) (nso : Nat) (nsi : Nat) (nit : Nat) (nsh : Nat) (nsf : Nat) (nss : Nat) (nrc : Nat) (jr : Nat) (jd : Nat) (mnumber : Int32) (mwhose : Int32) (msize : Int32) (misParted : Int32) (fnrc : Nat → Int32) (hjr : jr ≤ 30) (hjd : jd < 7) : MI l G yX12_bodyFrom cX12_bodyFrom 5 (some .int) 24 0 0 [.ref h0, .int 4, .int 1, .int xx] [(h0, .inr (12, [.ref nw, .ref nk, .int mhasKept, .ref nt, .int mtaped, .ref nr, .int mrowMany, .int mroundOf, .int mroundFrom, .int mouts, .ref nm, .int mfromHour, .int mtoHour, .ref ns, .int mfrom, .int mto, .int msort, .int misFault, .int mdeep, .int mcoded, .int mlines, .ref nl, .ref nc, .ref nF, .ref np, .ref ntr, .ref nb, .int mbestCost, .ref nso, .ref nsi, .ref nit, .ref nsh, .ref nsf, .ref nss, .ref nrc, .int (nI jr), .int (nI jd), .int mnumber, .int mwhose, .int msize, .int misParted])), (nrc, .inl (G.2.1, 30, .inl fnrc))] (fun (r : Int32) (u : Nat × Int32 × (Nat → Int32)) => (True) ∧ (u.1 ≤ 30)) (fun u : Nat × Int32 × (Nat → Int32) => [(h0, .inr (12, [.ref nw, .ref nk, .int mhasKept, .ref nt, .int mtaped, .ref nr, .int mrowMany, .int mroundOf, .int mroundFrom, .int mouts, .ref nm, .int mfromHour, .int mtoHour, .ref ns, .int mfrom, .int mto, .int msort, .int misFault, .int mdeep, .int mcoded, .int mlines, .ref nl, .ref nc, .ref nF, .ref np, .ref ntr, .ref nb, .int mbestCost, .ref nso, .ref nsi, .ref nit, .ref nsh, .ref nsf, .ref nss, .ref nrc, .int (nI u.1), .int (nI jd), .int mnumber, .int mwhose, .int msize, .int u.2.1])), (nrc, .inl (G.2.1, 30, .inl u.2.2))]) := by
  refine MI.start (by decide +kernel) (Nat.le_of_ble_eq_true rfl) ?_
  intro p e s m below meth c A ls hC hK hP hD hS hA hl
  have hl : lv_has ls 5 [(0, .ref h0), (1, .int 4), (2, .int 1), (3, .int xx)] := hl
  obtain ⟨hx, hb, hr, hml, hB, hown, hlocks, hnm⟩ := id hC
  refine lv_iload_n hx hb dX12_bodyFrom_0 rfl (lv_at hl 1 rfl) ?_
  refine lv_istore (lv' := [(4, .int 4), (0, .ref h0), (1, .int 4), (2, .int 1), (3, .int xx)]) hx hb dX12_bodyFrom_1 hl (by decide) rfl (fun ls hl => ?_)
  refine lv_iload hx hb dX12_bodyFrom_3 (lv_at hl 0 rfl) ?_
  refine lv_iload_n hx hb dX12_bodyFrom_5 rfl (lv_at hl 3 rfl) ?_
  refine pS hC hK hl (m_hasOwn41 l G) si_X12_360 rfl rfl (Nat.le_of_ble_eq_true rfl) ⟨Nat.le_of_ble_eq_true rfl, Nat.le_of_ble_eq_true rfl⟩ ⟨by first | exact Nat.le_of_ble_eq_true rfl | exact Nat.zero_le _, by first | exact Nat.le_of_ble_eq_true rfl | exact Nat.zero_le _⟩ dX12_bodyFrom_6 (fun r6250 hr6250 => ?_)
  obtain rfl := hr6250
  refine lv_if_ne (tgt := 22) hx hb dX12_bodyFrom_9 (by decide) (fun c9 => absurd (by decide) c9) (fun _ => ?_)
  refine lv_iload hx hb dX12_bodyFrom_12 (lv_at hl 0 rfl) ?_
  refine pS hC hK hl (m_above4 l G) si_X12_348 rfl rfl (Nat.le_of_ble_eq_true rfl) ⟨Nat.le_of_ble_eq_true rfl, Nat.le_of_ble_eq_true rfl⟩ ⟨by first | exact Nat.le_of_ble_eq_true rfl | exact Nat.zero_le _, by first | exact Nat.le_of_ble_eq_true rfl | exact Nat.zero_le _⟩ dX12_bodyFrom_14 (fun r6252 hr6252 => ?_)
  obtain rfl := hr6252
  refine lv_istore (lv' := [(4, .int 0), (0, .ref h0), (1, .int 4), (2, .int 1), (3, .int xx)]) hx hb dX12_bodyFrom_17 hl (by decide) rfl (fun ls hl => ?_)
  refine lv_goto (tgt := 3) hx hb dX12_bodyFrom_19 (by decide) ?_
  refine lv_iload hx hb dX12_bodyFrom_3 (lv_at hl 0 rfl) ?_
  refine lv_iload_n hx hb dX12_bodyFrom_5 rfl (lv_at hl 3 rfl) ?_
  refine pS hC hK hl (m_hasOwn01 l G) si_X12_360 rfl rfl (Nat.le_of_ble_eq_true rfl) ⟨Nat.le_of_ble_eq_true rfl, Nat.le_of_ble_eq_true rfl⟩ ⟨by first | exact Nat.le_of_ble_eq_true rfl | exact Nat.zero_le _, by first | exact Nat.le_of_ble_eq_true rfl | exact Nat.zero_le _⟩ dX12_bodyFrom_6 (fun r6254 hr6254 => ?_)
  obtain rfl := hr6254
  refine lv_if_ne (tgt := 22) hx hb dX12_bodyFrom_9 (by decide) (fun _ => ?_) (fun c9 => absurd c9 (by decide))
  refine lv_aload_n hx hb dX12_bodyFrom_22 rfl (lv_at hl 1 rfl) ?_
  refine lv_iload hx hb dX12_bodyFrom_23 (lv_at hl 0 rfl) ?_
  refine lv_iload_n hx hb dX12_bodyFrom_25 rfl (lv_at hl 3 rfl) ?_
  refine lv_iload_n hx hb dX12_bodyFrom_26 rfl (lv_at hl 4 rfl) ?_
  refine iV (wr := []) hC hK hl hP hD hS hA (m_body01 l G h0 xx nw nk mhasKept nt mtaped nr mrowMany mroundOf mroundFrom mouts nm mfromHour mtoHour ns mfrom mto msort misFault mdeep mcoded mlines nl nc nF np ntr nb mbestCost nso nsi nit nsh nsf nss nrc jr jd mnumber mwhose msize misParted fnrc (by omega) (by omega)) si_X12_363 [0, 1] [] rfl rfl (by decide) rfl (by decide) (by decide) rfl rfl rfl rfl rfl (Nat.le_of_ble_eq_true rfl) ⟨Nat.le_of_ble_eq_true rfl, Nat.le_of_ble_eq_true rfl⟩ ⟨Nat.le_of_ble_eq_true rfl, Nat.le_of_ble_eq_true rfl⟩ dX12_bodyFrom_27 (fun r6256 u6257 H locs hr6256 hP hD hS => ?_)
  obtain ⟨jr16258, ip16259, gtrc6260⟩ := u6257
  try dsimp only at hr6256
  have hP : va_P G.1 vwCl [(h0, .inr (12, [.ref nw, .ref nk, .int mhasKept, .ref nt, .int mtaped, .ref nr, .int mrowMany, .int mroundOf, .int mroundFrom, .int mouts, .ref nm, .int mfromHour, .int mtoHour, .ref ns, .int mfrom, .int mto, .int msort, .int misFault, .int mdeep, .int mcoded, .int mlines, .ref nl, .ref nc, .ref nF, .ref np, .ref ntr, .ref nb, .int mbestCost, .ref nso, .ref nsi, .ref nit, .ref nsh, .ref nsf, .ref nss, .ref nrc, .int (nI jr16258), .int (nI jd), .int mnumber, .int mwhose, .int msize, .int ip16259])), (nrc, .inl (G.2.1, 30, .inl gtrc6260))] H := hP
  have hD : va_D A [(h0, .inr (12, [.ref nw, .ref nk, .int mhasKept, .ref nt, .int mtaped, .ref nr, .int mrowMany, .int mroundOf, .int mroundFrom, .int mouts, .ref nm, .int mfromHour, .int mtoHour, .ref ns, .int mfrom, .int mto, .int msort, .int misFault, .int mdeep, .int mcoded, .int mlines, .ref nl, .ref nc, .ref nF, .ref np, .ref ntr, .ref nb, .int mbestCost, .ref nso, .ref nsi, .ref nit, .ref nsh, .ref nsf, .ref nss, .ref nrc, .int (nI jr16258), .int (nI jd), .int mnumber, .int mwhose, .int msize, .int ip16259])), (nrc, .inl (G.2.1, 30, .inl gtrc6260))] := hD
  obtain ⟨hr6256, w6261⟩ := hr6256
  exact RI (v := r6256) hC hP hD hS [0, 1] (jr16258, ip16259, gtrc6260) rfl rfl (by decide) (⟨trivial, by omega⟩) rfl dX12_bodyFrom_30
set_option maxHeartbeats 4000000 in
set_option maxRecDepth 100000 in
theorem m_from51 (l : Launch) (G : GG) (h0 : Nat) (xx : Int32) (nw : Nat) (nk : Nat) (mhasKept : Int32) (nt : Nat) (mtaped : Int32) (nr : Nat) (mrowMany : Int32) (mroundOf : Int32) (mroundFrom : Int32) (mouts : Int32) (nm : Nat) (mfromHour : Int32) (mtoHour : Int32) (ns : Nat) (mfrom : Int32) (mto : Int32) (msort : Int32) (misFault : Int32) (mdeep : Int32) (mcoded : Int32) (mlines : Int32) (nl : Nat) (nc : Nat) (nF : Nat) (np : Nat) (ntr : Nat) (nb : Nat) (mbestCost : Int32) (nso : Nat) (nsi : Nat) (nit : Nat) (nsh : Nat) (nsf : Nat) (nss : Nat) (nrc : Nat) (jr : Nat) (jd : Nat) (mnumber : Int32) (mwhose : Int32) (msize : Int32) (misParted : Int32) (fnrc : Nat → Int32) (hjr : jr ≤ 30) (hjd : jd < 7) : MI l G yX12_bodyFrom cX12_bodyFrom 5 (some .int) 24 0 0 [.ref h0, .int 5, .int 1, .int xx] [(h0, .inr (12, [.ref nw, .ref nk, .int mhasKept, .ref nt, .int mtaped, .ref nr, .int mrowMany, .int mroundOf, .int mroundFrom, .int mouts, .ref nm, .int mfromHour, .int mtoHour, .ref ns, .int mfrom, .int mto, .int msort, .int misFault, .int mdeep, .int mcoded, .int mlines, .ref nl, .ref nc, .ref nF, .ref np, .ref ntr, .ref nb, .int mbestCost, .ref nso, .ref nsi, .ref nit, .ref nsh, .ref nsf, .ref nss, .ref nrc, .int (nI jr), .int (nI jd), .int mnumber, .int mwhose, .int msize, .int misParted])), (nrc, .inl (G.2.1, 30, .inl fnrc))] (fun (r : Int32) (u : Nat × Int32 × (Nat → Int32)) => (True) ∧ (u.1 ≤ 30)) (fun u : Nat × Int32 × (Nat → Int32) => [(h0, .inr (12, [.ref nw, .ref nk, .int mhasKept, .ref nt, .int mtaped, .ref nr, .int mrowMany, .int mroundOf, .int mroundFrom, .int mouts, .ref nm, .int mfromHour, .int mtoHour, .ref ns, .int mfrom, .int mto, .int msort, .int misFault, .int mdeep, .int mcoded, .int mlines, .ref nl, .ref nc, .ref nF, .ref np, .ref ntr, .ref nb, .int mbestCost, .ref nso, .ref nsi, .ref nit, .ref nsh, .ref nsf, .ref nss, .ref nrc, .int (nI u.1), .int (nI jd), .int mnumber, .int mwhose, .int msize, .int u.2.1])), (nrc, .inl (G.2.1, 30, .inl u.2.2))]) := by
  refine MI.start (by decide +kernel) (Nat.le_of_ble_eq_true rfl) ?_
  intro p e s m below meth c A ls hC hK hP hD hS hA hl
  have hl : lv_has ls 5 [(0, .ref h0), (1, .int 5), (2, .int 1), (3, .int xx)] := hl
  obtain ⟨hx, hb, hr, hml, hB, hown, hlocks, hnm⟩ := id hC
  refine lv_iload_n hx hb dX12_bodyFrom_0 rfl (lv_at hl 1 rfl) ?_
  refine lv_istore (lv' := [(4, .int 5), (0, .ref h0), (1, .int 5), (2, .int 1), (3, .int xx)]) hx hb dX12_bodyFrom_1 hl (by decide) rfl (fun ls hl => ?_)
  refine lv_iload hx hb dX12_bodyFrom_3 (lv_at hl 0 rfl) ?_
  refine lv_iload_n hx hb dX12_bodyFrom_5 rfl (lv_at hl 3 rfl) ?_
  refine pS hC hK hl (m_hasOwn51 l G) si_X12_360 rfl rfl (Nat.le_of_ble_eq_true rfl) ⟨Nat.le_of_ble_eq_true rfl, Nat.le_of_ble_eq_true rfl⟩ ⟨by first | exact Nat.le_of_ble_eq_true rfl | exact Nat.zero_le _, by first | exact Nat.le_of_ble_eq_true rfl | exact Nat.zero_le _⟩ dX12_bodyFrom_6 (fun r6262 hr6262 => ?_)
  obtain rfl := hr6262
  refine lv_if_ne (tgt := 22) hx hb dX12_bodyFrom_9 (by decide) (fun c9 => absurd (by decide) c9) (fun _ => ?_)
  refine lv_iload hx hb dX12_bodyFrom_12 (lv_at hl 0 rfl) ?_
  refine pS hC hK hl (m_above5 l G) si_X12_348 rfl rfl (Nat.le_of_ble_eq_true rfl) ⟨Nat.le_of_ble_eq_true rfl, Nat.le_of_ble_eq_true rfl⟩ ⟨by first | exact Nat.le_of_ble_eq_true rfl | exact Nat.zero_le _, by first | exact Nat.le_of_ble_eq_true rfl | exact Nat.zero_le _⟩ dX12_bodyFrom_14 (fun r6264 hr6264 => ?_)
  obtain rfl := hr6264
  refine lv_istore (lv' := [(4, .int 4), (0, .ref h0), (1, .int 5), (2, .int 1), (3, .int xx)]) hx hb dX12_bodyFrom_17 hl (by decide) rfl (fun ls hl => ?_)
  refine lv_goto (tgt := 3) hx hb dX12_bodyFrom_19 (by decide) ?_
  refine lv_iload hx hb dX12_bodyFrom_3 (lv_at hl 0 rfl) ?_
  refine lv_iload_n hx hb dX12_bodyFrom_5 rfl (lv_at hl 3 rfl) ?_
  refine pS hC hK hl (m_hasOwn41 l G) si_X12_360 rfl rfl (Nat.le_of_ble_eq_true rfl) ⟨Nat.le_of_ble_eq_true rfl, Nat.le_of_ble_eq_true rfl⟩ ⟨by first | exact Nat.le_of_ble_eq_true rfl | exact Nat.zero_le _, by first | exact Nat.le_of_ble_eq_true rfl | exact Nat.zero_le _⟩ dX12_bodyFrom_6 (fun r6266 hr6266 => ?_)
  obtain rfl := hr6266
  refine lv_if_ne (tgt := 22) hx hb dX12_bodyFrom_9 (by decide) (fun c9 => absurd (by decide) c9) (fun _ => ?_)
  refine lv_iload hx hb dX12_bodyFrom_12 (lv_at hl 0 rfl) ?_
  refine pS hC hK hl (m_above4 l G) si_X12_348 rfl rfl (Nat.le_of_ble_eq_true rfl) ⟨Nat.le_of_ble_eq_true rfl, Nat.le_of_ble_eq_true rfl⟩ ⟨by first | exact Nat.le_of_ble_eq_true rfl | exact Nat.zero_le _, by first | exact Nat.le_of_ble_eq_true rfl | exact Nat.zero_le _⟩ dX12_bodyFrom_14 (fun r6268 hr6268 => ?_)
  obtain rfl := hr6268
  refine lv_istore (lv' := [(4, .int 0), (0, .ref h0), (1, .int 5), (2, .int 1), (3, .int xx)]) hx hb dX12_bodyFrom_17 hl (by decide) rfl (fun ls hl => ?_)
  refine lv_goto (tgt := 3) hx hb dX12_bodyFrom_19 (by decide) ?_
  refine lv_iload hx hb dX12_bodyFrom_3 (lv_at hl 0 rfl) ?_
  refine lv_iload_n hx hb dX12_bodyFrom_5 rfl (lv_at hl 3 rfl) ?_
  refine pS hC hK hl (m_hasOwn01 l G) si_X12_360 rfl rfl (Nat.le_of_ble_eq_true rfl) ⟨Nat.le_of_ble_eq_true rfl, Nat.le_of_ble_eq_true rfl⟩ ⟨by first | exact Nat.le_of_ble_eq_true rfl | exact Nat.zero_le _, by first | exact Nat.le_of_ble_eq_true rfl | exact Nat.zero_le _⟩ dX12_bodyFrom_6 (fun r6270 hr6270 => ?_)
  obtain rfl := hr6270
  refine lv_if_ne (tgt := 22) hx hb dX12_bodyFrom_9 (by decide) (fun _ => ?_) (fun c9 => absurd c9 (by decide))
  refine lv_aload_n hx hb dX12_bodyFrom_22 rfl (lv_at hl 1 rfl) ?_
  refine lv_iload hx hb dX12_bodyFrom_23 (lv_at hl 0 rfl) ?_
  refine lv_iload_n hx hb dX12_bodyFrom_25 rfl (lv_at hl 3 rfl) ?_
  refine lv_iload_n hx hb dX12_bodyFrom_26 rfl (lv_at hl 4 rfl) ?_
  refine iV (wr := []) hC hK hl hP hD hS hA (m_body01 l G h0 xx nw nk mhasKept nt mtaped nr mrowMany mroundOf mroundFrom mouts nm mfromHour mtoHour ns mfrom mto msort misFault mdeep mcoded mlines nl nc nF np ntr nb mbestCost nso nsi nit nsh nsf nss nrc jr jd mnumber mwhose msize misParted fnrc (by omega) (by omega)) si_X12_363 [0, 1] [] rfl rfl (by decide) rfl (by decide) (by decide) rfl rfl rfl rfl rfl (Nat.le_of_ble_eq_true rfl) ⟨Nat.le_of_ble_eq_true rfl, Nat.le_of_ble_eq_true rfl⟩ ⟨Nat.le_of_ble_eq_true rfl, Nat.le_of_ble_eq_true rfl⟩ dX12_bodyFrom_27 (fun r6272 u6273 H locs hr6272 hP hD hS => ?_)
  obtain ⟨jr16274, ip16275, gtrc6276⟩ := u6273
  try dsimp only at hr6272
  have hP : va_P G.1 vwCl [(h0, .inr (12, [.ref nw, .ref nk, .int mhasKept, .ref nt, .int mtaped, .ref nr, .int mrowMany, .int mroundOf, .int mroundFrom, .int mouts, .ref nm, .int mfromHour, .int mtoHour, .ref ns, .int mfrom, .int mto, .int msort, .int misFault, .int mdeep, .int mcoded, .int mlines, .ref nl, .ref nc, .ref nF, .ref np, .ref ntr, .ref nb, .int mbestCost, .ref nso, .ref nsi, .ref nit, .ref nsh, .ref nsf, .ref nss, .ref nrc, .int (nI jr16274), .int (nI jd), .int mnumber, .int mwhose, .int msize, .int ip16275])), (nrc, .inl (G.2.1, 30, .inl gtrc6276))] H := hP
  have hD : va_D A [(h0, .inr (12, [.ref nw, .ref nk, .int mhasKept, .ref nt, .int mtaped, .ref nr, .int mrowMany, .int mroundOf, .int mroundFrom, .int mouts, .ref nm, .int mfromHour, .int mtoHour, .ref ns, .int mfrom, .int mto, .int msort, .int misFault, .int mdeep, .int mcoded, .int mlines, .ref nl, .ref nc, .ref nF, .ref np, .ref ntr, .ref nb, .int mbestCost, .ref nso, .ref nsi, .ref nit, .ref nsh, .ref nsf, .ref nss, .ref nrc, .int (nI jr16274), .int (nI jd), .int mnumber, .int mwhose, .int msize, .int ip16275])), (nrc, .inl (G.2.1, 30, .inl gtrc6276))] := hD
  obtain ⟨hr6272, w6277⟩ := hr6272
  exact RI (v := r6272) hC hP hD hS [0, 1] (jr16274, ip16275, gtrc6276) rfl rfl (by decide) (⟨trivial, by omega⟩) rfl dX12_bodyFrom_30
set_option maxHeartbeats 4000000 in
set_option maxRecDepth 100000 in
theorem m_from61 (l : Launch) (G : GG) (h0 : Nat) (xx : Int32) (nw : Nat) (nk : Nat) (mhasKept : Int32) (nt : Nat) (mtaped : Int32) (nr : Nat) (mrowMany : Int32) (mroundOf : Int32) (mroundFrom : Int32) (mouts : Int32) (nm : Nat) (mfromHour : Int32) (mtoHour : Int32) (ns : Nat) (mfrom : Int32) (mto : Int32) (msort : Int32) (misFault : Int32) (mdeep : Int32) (mcoded : Int32) (mlines : Int32) (nl : Nat) (nc : Nat) (nF : Nat) (np : Nat) (ntr : Nat) (nb : Nat) (mbestCost : Int32) (nso : Nat) (nsi : Nat) (nit : Nat) (nsh : Nat) (nsf : Nat) (nss : Nat) (nrc : Nat) (jr : Nat) (jd : Nat) (mnumber : Int32) (mwhose : Int32) (msize : Int32) (misParted : Int32) (fnrc : Nat → Int32) (hjr : jr ≤ 30) (hjd : jd < 7) : MI l G yX12_bodyFrom cX12_bodyFrom 5 (some .int) 24 0 0 [.ref h0, .int 6, .int 1, .int xx] [(h0, .inr (12, [.ref nw, .ref nk, .int mhasKept, .ref nt, .int mtaped, .ref nr, .int mrowMany, .int mroundOf, .int mroundFrom, .int mouts, .ref nm, .int mfromHour, .int mtoHour, .ref ns, .int mfrom, .int mto, .int msort, .int misFault, .int mdeep, .int mcoded, .int mlines, .ref nl, .ref nc, .ref nF, .ref np, .ref ntr, .ref nb, .int mbestCost, .ref nso, .ref nsi, .ref nit, .ref nsh, .ref nsf, .ref nss, .ref nrc, .int (nI jr), .int (nI jd), .int mnumber, .int mwhose, .int msize, .int misParted])), (nrc, .inl (G.2.1, 30, .inl fnrc))] (fun (r : Int32) (u : Nat × Int32 × (Nat → Int32)) => (True) ∧ (u.1 ≤ 30)) (fun u : Nat × Int32 × (Nat → Int32) => [(h0, .inr (12, [.ref nw, .ref nk, .int mhasKept, .ref nt, .int mtaped, .ref nr, .int mrowMany, .int mroundOf, .int mroundFrom, .int mouts, .ref nm, .int mfromHour, .int mtoHour, .ref ns, .int mfrom, .int mto, .int msort, .int misFault, .int mdeep, .int mcoded, .int mlines, .ref nl, .ref nc, .ref nF, .ref np, .ref ntr, .ref nb, .int mbestCost, .ref nso, .ref nsi, .ref nit, .ref nsh, .ref nsf, .ref nss, .ref nrc, .int (nI u.1), .int (nI jd), .int mnumber, .int mwhose, .int msize, .int u.2.1])), (nrc, .inl (G.2.1, 30, .inl u.2.2))]) := by
  refine MI.start (by decide +kernel) (Nat.le_of_ble_eq_true rfl) ?_
  intro p e s m below meth c A ls hC hK hP hD hS hA hl
  have hl : lv_has ls 5 [(0, .ref h0), (1, .int 6), (2, .int 1), (3, .int xx)] := hl
  obtain ⟨hx, hb, hr, hml, hB, hown, hlocks, hnm⟩ := id hC
  refine lv_iload_n hx hb dX12_bodyFrom_0 rfl (lv_at hl 1 rfl) ?_
  refine lv_istore (lv' := [(4, .int 6), (0, .ref h0), (1, .int 6), (2, .int 1), (3, .int xx)]) hx hb dX12_bodyFrom_1 hl (by decide) rfl (fun ls hl => ?_)
  refine lv_iload hx hb dX12_bodyFrom_3 (lv_at hl 0 rfl) ?_
  refine lv_iload_n hx hb dX12_bodyFrom_5 rfl (lv_at hl 3 rfl) ?_
  refine pS hC hK hl (m_hasOwn61 l G) si_X12_360 rfl rfl (Nat.le_of_ble_eq_true rfl) ⟨Nat.le_of_ble_eq_true rfl, Nat.le_of_ble_eq_true rfl⟩ ⟨by first | exact Nat.le_of_ble_eq_true rfl | exact Nat.zero_le _, by first | exact Nat.le_of_ble_eq_true rfl | exact Nat.zero_le _⟩ dX12_bodyFrom_6 (fun r6278 hr6278 => ?_)
  obtain rfl := hr6278
  refine lv_if_ne (tgt := 22) hx hb dX12_bodyFrom_9 (by decide) (fun c9 => absurd (by decide) c9) (fun _ => ?_)
  refine lv_iload hx hb dX12_bodyFrom_12 (lv_at hl 0 rfl) ?_
  refine pS hC hK hl (m_above6 l G) si_X12_348 rfl rfl (Nat.le_of_ble_eq_true rfl) ⟨Nat.le_of_ble_eq_true rfl, Nat.le_of_ble_eq_true rfl⟩ ⟨by first | exact Nat.le_of_ble_eq_true rfl | exact Nat.zero_le _, by first | exact Nat.le_of_ble_eq_true rfl | exact Nat.zero_le _⟩ dX12_bodyFrom_14 (fun r6280 hr6280 => ?_)
  obtain rfl := hr6280
  refine lv_istore (lv' := [(4, .int 0), (0, .ref h0), (1, .int 6), (2, .int 1), (3, .int xx)]) hx hb dX12_bodyFrom_17 hl (by decide) rfl (fun ls hl => ?_)
  refine lv_goto (tgt := 3) hx hb dX12_bodyFrom_19 (by decide) ?_
  refine lv_iload hx hb dX12_bodyFrom_3 (lv_at hl 0 rfl) ?_
  refine lv_iload_n hx hb dX12_bodyFrom_5 rfl (lv_at hl 3 rfl) ?_
  refine pS hC hK hl (m_hasOwn01 l G) si_X12_360 rfl rfl (Nat.le_of_ble_eq_true rfl) ⟨Nat.le_of_ble_eq_true rfl, Nat.le_of_ble_eq_true rfl⟩ ⟨by first | exact Nat.le_of_ble_eq_true rfl | exact Nat.zero_le _, by first | exact Nat.le_of_ble_eq_true rfl | exact Nat.zero_le _⟩ dX12_bodyFrom_6 (fun r6282 hr6282 => ?_)
  obtain rfl := hr6282
  refine lv_if_ne (tgt := 22) hx hb dX12_bodyFrom_9 (by decide) (fun _ => ?_) (fun c9 => absurd c9 (by decide))
  refine lv_aload_n hx hb dX12_bodyFrom_22 rfl (lv_at hl 1 rfl) ?_
  refine lv_iload hx hb dX12_bodyFrom_23 (lv_at hl 0 rfl) ?_
  refine lv_iload_n hx hb dX12_bodyFrom_25 rfl (lv_at hl 3 rfl) ?_
  refine lv_iload_n hx hb dX12_bodyFrom_26 rfl (lv_at hl 4 rfl) ?_
  refine iV (wr := []) hC hK hl hP hD hS hA (m_body01 l G h0 xx nw nk mhasKept nt mtaped nr mrowMany mroundOf mroundFrom mouts nm mfromHour mtoHour ns mfrom mto msort misFault mdeep mcoded mlines nl nc nF np ntr nb mbestCost nso nsi nit nsh nsf nss nrc jr jd mnumber mwhose msize misParted fnrc (by omega) (by omega)) si_X12_363 [0, 1] [] rfl rfl (by decide) rfl (by decide) (by decide) rfl rfl rfl rfl rfl (Nat.le_of_ble_eq_true rfl) ⟨Nat.le_of_ble_eq_true rfl, Nat.le_of_ble_eq_true rfl⟩ ⟨Nat.le_of_ble_eq_true rfl, Nat.le_of_ble_eq_true rfl⟩ dX12_bodyFrom_27 (fun r6284 u6285 H locs hr6284 hP hD hS => ?_)
  obtain ⟨jr16286, ip16287, gtrc6288⟩ := u6285
  try dsimp only at hr6284
  have hP : va_P G.1 vwCl [(h0, .inr (12, [.ref nw, .ref nk, .int mhasKept, .ref nt, .int mtaped, .ref nr, .int mrowMany, .int mroundOf, .int mroundFrom, .int mouts, .ref nm, .int mfromHour, .int mtoHour, .ref ns, .int mfrom, .int mto, .int msort, .int misFault, .int mdeep, .int mcoded, .int mlines, .ref nl, .ref nc, .ref nF, .ref np, .ref ntr, .ref nb, .int mbestCost, .ref nso, .ref nsi, .ref nit, .ref nsh, .ref nsf, .ref nss, .ref nrc, .int (nI jr16286), .int (nI jd), .int mnumber, .int mwhose, .int msize, .int ip16287])), (nrc, .inl (G.2.1, 30, .inl gtrc6288))] H := hP
  have hD : va_D A [(h0, .inr (12, [.ref nw, .ref nk, .int mhasKept, .ref nt, .int mtaped, .ref nr, .int mrowMany, .int mroundOf, .int mroundFrom, .int mouts, .ref nm, .int mfromHour, .int mtoHour, .ref ns, .int mfrom, .int mto, .int msort, .int misFault, .int mdeep, .int mcoded, .int mlines, .ref nl, .ref nc, .ref nF, .ref np, .ref ntr, .ref nb, .int mbestCost, .ref nso, .ref nsi, .ref nit, .ref nsh, .ref nsf, .ref nss, .ref nrc, .int (nI jr16286), .int (nI jd), .int mnumber, .int mwhose, .int msize, .int ip16287])), (nrc, .inl (G.2.1, 30, .inl gtrc6288))] := hD
  obtain ⟨hr6284, w6289⟩ := hr6284
  exact RI (v := r6284) hC hP hD hS [0, 1] (jr16286, ip16287, gtrc6288) rfl rfl (by decide) (⟨trivial, by omega⟩) rfl dX12_bodyFrom_30
set_option maxHeartbeats 4000000 in
set_option maxRecDepth 100000 in
theorem m_dealt1 (l : Launch) (G : GG) (h0 : Nat) (xx : Int32) (nw : Nat) (nk : Nat) (mhasKept : Int32) (nt : Nat) (mtaped : Int32) (nr : Nat) (mrowMany : Int32) (mroundOf : Int32) (mroundFrom : Int32) (mouts : Int32) (nm : Nat) (mfromHour : Int32) (mtoHour : Int32) (ns : Nat) (mfrom : Int32) (mto : Int32) (msort : Int32) (misFault : Int32) (mdeep : Int32) (mcoded : Int32) (mlines : Int32) (nl : Nat) (nc : Nat) (nF : Nat) (np : Nat) (ntr : Nat) (nb : Nat) (mbestCost : Int32) (nso : Nat) (nsi : Nat) (nit : Nat) (nsh : Nat) (nsf : Nat) (nss : Nat) (nrc : Nat) (jr : Nat) (jd : Nat) (mnumber : Int32) (mwhose : Int32) (msize : Int32) (misParted : Int32) (fnrc : Nat → Int32) (hjr : jr ≤ 30) (hjd : jd < 7) : MI l G yX12_dealt cX12_dealt 3 (some .int) 26 0 0 [.ref h0, .int 1, .int xx] [(h0, .inr (12, [.ref nw, .ref nk, .int mhasKept, .ref nt, .int mtaped, .ref nr, .int mrowMany, .int mroundOf, .int mroundFrom, .int mouts, .ref nm, .int mfromHour, .int mtoHour, .ref ns, .int mfrom, .int mto, .int msort, .int misFault, .int mdeep, .int mcoded, .int mlines, .ref nl, .ref nc, .ref nF, .ref np, .ref ntr, .ref nb, .int mbestCost, .ref nso, .ref nsi, .ref nit, .ref nsh, .ref nsf, .ref nss, .ref nrc, .int (nI jr), .int (nI jd), .int mnumber, .int mwhose, .int msize, .int misParted])), (nrc, .inl (G.2.1, 30, .inl fnrc))] (fun (r : Int32) (u : Nat × Int32 × (Nat → Int32)) => (True) ∧ (u.1 ≤ 30)) (fun u : Nat × Int32 × (Nat → Int32) => [(h0, .inr (12, [.ref nw, .ref nk, .int mhasKept, .ref nt, .int mtaped, .ref nr, .int mrowMany, .int mroundOf, .int mroundFrom, .int mouts, .ref nm, .int mfromHour, .int mtoHour, .ref ns, .int mfrom, .int mto, .int msort, .int misFault, .int mdeep, .int mcoded, .int mlines, .ref nl, .ref nc, .ref nF, .ref np, .ref ntr, .ref nb, .int mbestCost, .ref nso, .ref nsi, .ref nit, .ref nsh, .ref nsf, .ref nss, .ref nrc, .int (nI u.1), .int (nI jd), .int mnumber, .int mwhose, .int msize, .int u.2.1])), (nrc, .inl (G.2.1, 30, .inl u.2.2))]) := by
  refine MI.start (by decide +kernel) (Nat.le_of_ble_eq_true rfl) ?_
  intro p e s m below meth c A ls hC hK hP hD hS hA hl
  have hl : lv_has ls 3 [(0, .ref h0), (1, .int 1), (2, .int xx)] := hl
  obtain ⟨hx, hb, hr, hml, hB, hown, hlocks, hnm⟩ := id hC
  refine lv_aload_n hx hb dX12_dealt_0 rfl (lv_at hl 0 rfl) ?_
  refine lv_aload_n hx hb dX12_dealt_1 rfl (lv_at hl 0 rfl) ?_
  refine gf_X12_354 hC rfl hK hP 0 rfl rfl dX12_dealt_2 ?_
  refine lv_iload_n hx hb dX12_dealt_5 rfl (lv_at hl 1 rfl) ?_
  refine lv_iload_n hx hb dX12_dealt_6 rfl (lv_at hl 2 rfl) ?_
  rcases (show jd = 0 ∨ jd = 1 ∨ jd = 2 ∨ jd = 3 ∨ jd = 4 ∨ jd = 5 ∨ jd = 6 by omega) with rfl | rfl | rfl | rfl | rfl | rfl | rfl
  · refine iV (wr := []) hC hK hl hP hD hS hA (m_from01 l G h0 xx nw nk mhasKept nt mtaped nr mrowMany mroundOf mroundFrom mouts nm mfromHour mtoHour ns mfrom mto msort misFault mdeep mcoded mlines nl nc nF np ntr nb mbestCost nso nsi nit nsh nsf nss nrc jr 0 mnumber mwhose msize misParted fnrc (by omega) (by omega)) si_X12_357 [0, 1] [] rfl rfl (by decide) rfl (by decide) (by decide) rfl rfl rfl rfl rfl (Nat.le_of_ble_eq_true rfl) ⟨Nat.le_of_ble_eq_true rfl, Nat.le_of_ble_eq_true rfl⟩ ⟨Nat.le_of_ble_eq_true rfl, Nat.le_of_ble_eq_true rfl⟩ dX12_dealt_7 (fun r6290 u6291 H locs hr6290 hP hD hS => ?_)
    obtain ⟨jr16292, ip16293, gtrc6294⟩ := u6291
    try dsimp only at hr6290
    have hP : va_P G.1 vwCl [(h0, .inr (12, [.ref nw, .ref nk, .int mhasKept, .ref nt, .int mtaped, .ref nr, .int mrowMany, .int mroundOf, .int mroundFrom, .int mouts, .ref nm, .int mfromHour, .int mtoHour, .ref ns, .int mfrom, .int mto, .int msort, .int misFault, .int mdeep, .int mcoded, .int mlines, .ref nl, .ref nc, .ref nF, .ref np, .ref ntr, .ref nb, .int mbestCost, .ref nso, .ref nsi, .ref nit, .ref nsh, .ref nsf, .ref nss, .ref nrc, .int (nI jr16292), .int 0, .int mnumber, .int mwhose, .int msize, .int ip16293])), (nrc, .inl (G.2.1, 30, .inl gtrc6294))] H := hP
    have hD : va_D A [(h0, .inr (12, [.ref nw, .ref nk, .int mhasKept, .ref nt, .int mtaped, .ref nr, .int mrowMany, .int mroundOf, .int mroundFrom, .int mouts, .ref nm, .int mfromHour, .int mtoHour, .ref ns, .int mfrom, .int mto, .int msort, .int misFault, .int mdeep, .int mcoded, .int mlines, .ref nl, .ref nc, .ref nF, .ref np, .ref ntr, .ref nb, .int mbestCost, .ref nso, .ref nsi, .ref nit, .ref nsh, .ref nsf, .ref nss, .ref nrc, .int (nI jr16292), .int 0, .int mnumber, .int mwhose, .int msize, .int ip16293])), (nrc, .inl (G.2.1, 30, .inl gtrc6294))] := hD
    obtain ⟨hr6290, w6295⟩ := hr6290
    exact RI (v := r6290) hC hP hD hS [0, 1] (jr16292, ip16293, gtrc6294) rfl rfl (by decide) (⟨trivial, by omega⟩) rfl dX12_dealt_10
  · refine iV (wr := []) hC hK hl hP hD hS hA (m_from11 l G h0 xx nw nk mhasKept nt mtaped nr mrowMany mroundOf mroundFrom mouts nm mfromHour mtoHour ns mfrom mto msort misFault mdeep mcoded mlines nl nc nF np ntr nb mbestCost nso nsi nit nsh nsf nss nrc jr 1 mnumber mwhose msize misParted fnrc (by omega) (by omega)) si_X12_357 [0, 1] [] rfl rfl (by decide) rfl (by decide) (by decide) rfl rfl rfl rfl rfl (Nat.le_of_ble_eq_true rfl) ⟨Nat.le_of_ble_eq_true rfl, Nat.le_of_ble_eq_true rfl⟩ ⟨Nat.le_of_ble_eq_true rfl, Nat.le_of_ble_eq_true rfl⟩ dX12_dealt_7 (fun r6296 u6297 H locs hr6296 hP hD hS => ?_)
    obtain ⟨jr16298, ip16299, gtrc6300⟩ := u6297
    try dsimp only at hr6296
    have hP : va_P G.1 vwCl [(h0, .inr (12, [.ref nw, .ref nk, .int mhasKept, .ref nt, .int mtaped, .ref nr, .int mrowMany, .int mroundOf, .int mroundFrom, .int mouts, .ref nm, .int mfromHour, .int mtoHour, .ref ns, .int mfrom, .int mto, .int msort, .int misFault, .int mdeep, .int mcoded, .int mlines, .ref nl, .ref nc, .ref nF, .ref np, .ref ntr, .ref nb, .int mbestCost, .ref nso, .ref nsi, .ref nit, .ref nsh, .ref nsf, .ref nss, .ref nrc, .int (nI jr16298), .int 1, .int mnumber, .int mwhose, .int msize, .int ip16299])), (nrc, .inl (G.2.1, 30, .inl gtrc6300))] H := hP
    have hD : va_D A [(h0, .inr (12, [.ref nw, .ref nk, .int mhasKept, .ref nt, .int mtaped, .ref nr, .int mrowMany, .int mroundOf, .int mroundFrom, .int mouts, .ref nm, .int mfromHour, .int mtoHour, .ref ns, .int mfrom, .int mto, .int msort, .int misFault, .int mdeep, .int mcoded, .int mlines, .ref nl, .ref nc, .ref nF, .ref np, .ref ntr, .ref nb, .int mbestCost, .ref nso, .ref nsi, .ref nit, .ref nsh, .ref nsf, .ref nss, .ref nrc, .int (nI jr16298), .int 1, .int mnumber, .int mwhose, .int msize, .int ip16299])), (nrc, .inl (G.2.1, 30, .inl gtrc6300))] := hD
    obtain ⟨hr6296, w6301⟩ := hr6296
    exact RI (v := r6296) hC hP hD hS [0, 1] (jr16298, ip16299, gtrc6300) rfl rfl (by decide) (⟨trivial, by omega⟩) rfl dX12_dealt_10
  · refine iV (wr := []) hC hK hl hP hD hS hA (m_from21 l G h0 xx nw nk mhasKept nt mtaped nr mrowMany mroundOf mroundFrom mouts nm mfromHour mtoHour ns mfrom mto msort misFault mdeep mcoded mlines nl nc nF np ntr nb mbestCost nso nsi nit nsh nsf nss nrc jr 2 mnumber mwhose msize misParted fnrc (by omega) (by omega)) si_X12_357 [0, 1] [] rfl rfl (by decide) rfl (by decide) (by decide) rfl rfl rfl rfl rfl (Nat.le_of_ble_eq_true rfl) ⟨Nat.le_of_ble_eq_true rfl, Nat.le_of_ble_eq_true rfl⟩ ⟨Nat.le_of_ble_eq_true rfl, Nat.le_of_ble_eq_true rfl⟩ dX12_dealt_7 (fun r6302 u6303 H locs hr6302 hP hD hS => ?_)
    obtain ⟨jr16304, ip16305, gtrc6306⟩ := u6303
    try dsimp only at hr6302
    have hP : va_P G.1 vwCl [(h0, .inr (12, [.ref nw, .ref nk, .int mhasKept, .ref nt, .int mtaped, .ref nr, .int mrowMany, .int mroundOf, .int mroundFrom, .int mouts, .ref nm, .int mfromHour, .int mtoHour, .ref ns, .int mfrom, .int mto, .int msort, .int misFault, .int mdeep, .int mcoded, .int mlines, .ref nl, .ref nc, .ref nF, .ref np, .ref ntr, .ref nb, .int mbestCost, .ref nso, .ref nsi, .ref nit, .ref nsh, .ref nsf, .ref nss, .ref nrc, .int (nI jr16304), .int 2, .int mnumber, .int mwhose, .int msize, .int ip16305])), (nrc, .inl (G.2.1, 30, .inl gtrc6306))] H := hP
    have hD : va_D A [(h0, .inr (12, [.ref nw, .ref nk, .int mhasKept, .ref nt, .int mtaped, .ref nr, .int mrowMany, .int mroundOf, .int mroundFrom, .int mouts, .ref nm, .int mfromHour, .int mtoHour, .ref ns, .int mfrom, .int mto, .int msort, .int misFault, .int mdeep, .int mcoded, .int mlines, .ref nl, .ref nc, .ref nF, .ref np, .ref ntr, .ref nb, .int mbestCost, .ref nso, .ref nsi, .ref nit, .ref nsh, .ref nsf, .ref nss, .ref nrc, .int (nI jr16304), .int 2, .int mnumber, .int mwhose, .int msize, .int ip16305])), (nrc, .inl (G.2.1, 30, .inl gtrc6306))] := hD
    obtain ⟨hr6302, w6307⟩ := hr6302
    exact RI (v := r6302) hC hP hD hS [0, 1] (jr16304, ip16305, gtrc6306) rfl rfl (by decide) (⟨trivial, by omega⟩) rfl dX12_dealt_10
  · refine iV (wr := []) hC hK hl hP hD hS hA (m_from31 l G h0 xx nw nk mhasKept nt mtaped nr mrowMany mroundOf mroundFrom mouts nm mfromHour mtoHour ns mfrom mto msort misFault mdeep mcoded mlines nl nc nF np ntr nb mbestCost nso nsi nit nsh nsf nss nrc jr 3 mnumber mwhose msize misParted fnrc (by omega) (by omega)) si_X12_357 [0, 1] [] rfl rfl (by decide) rfl (by decide) (by decide) rfl rfl rfl rfl rfl (Nat.le_of_ble_eq_true rfl) ⟨Nat.le_of_ble_eq_true rfl, Nat.le_of_ble_eq_true rfl⟩ ⟨Nat.le_of_ble_eq_true rfl, Nat.le_of_ble_eq_true rfl⟩ dX12_dealt_7 (fun r6308 u6309 H locs hr6308 hP hD hS => ?_)
    obtain ⟨jr16310, ip16311, gtrc6312⟩ := u6309
    try dsimp only at hr6308
    have hP : va_P G.1 vwCl [(h0, .inr (12, [.ref nw, .ref nk, .int mhasKept, .ref nt, .int mtaped, .ref nr, .int mrowMany, .int mroundOf, .int mroundFrom, .int mouts, .ref nm, .int mfromHour, .int mtoHour, .ref ns, .int mfrom, .int mto, .int msort, .int misFault, .int mdeep, .int mcoded, .int mlines, .ref nl, .ref nc, .ref nF, .ref np, .ref ntr, .ref nb, .int mbestCost, .ref nso, .ref nsi, .ref nit, .ref nsh, .ref nsf, .ref nss, .ref nrc, .int (nI jr16310), .int 3, .int mnumber, .int mwhose, .int msize, .int ip16311])), (nrc, .inl (G.2.1, 30, .inl gtrc6312))] H := hP
    have hD : va_D A [(h0, .inr (12, [.ref nw, .ref nk, .int mhasKept, .ref nt, .int mtaped, .ref nr, .int mrowMany, .int mroundOf, .int mroundFrom, .int mouts, .ref nm, .int mfromHour, .int mtoHour, .ref ns, .int mfrom, .int mto, .int msort, .int misFault, .int mdeep, .int mcoded, .int mlines, .ref nl, .ref nc, .ref nF, .ref np, .ref ntr, .ref nb, .int mbestCost, .ref nso, .ref nsi, .ref nit, .ref nsh, .ref nsf, .ref nss, .ref nrc, .int (nI jr16310), .int 3, .int mnumber, .int mwhose, .int msize, .int ip16311])), (nrc, .inl (G.2.1, 30, .inl gtrc6312))] := hD
    obtain ⟨hr6308, w6313⟩ := hr6308
    exact RI (v := r6308) hC hP hD hS [0, 1] (jr16310, ip16311, gtrc6312) rfl rfl (by decide) (⟨trivial, by omega⟩) rfl dX12_dealt_10
  · refine iV (wr := []) hC hK hl hP hD hS hA (m_from41 l G h0 xx nw nk mhasKept nt mtaped nr mrowMany mroundOf mroundFrom mouts nm mfromHour mtoHour ns mfrom mto msort misFault mdeep mcoded mlines nl nc nF np ntr nb mbestCost nso nsi nit nsh nsf nss nrc jr 4 mnumber mwhose msize misParted fnrc (by omega) (by omega)) si_X12_357 [0, 1] [] rfl rfl (by decide) rfl (by decide) (by decide) rfl rfl rfl rfl rfl (Nat.le_of_ble_eq_true rfl) ⟨Nat.le_of_ble_eq_true rfl, Nat.le_of_ble_eq_true rfl⟩ ⟨Nat.le_of_ble_eq_true rfl, Nat.le_of_ble_eq_true rfl⟩ dX12_dealt_7 (fun r6314 u6315 H locs hr6314 hP hD hS => ?_)
    obtain ⟨jr16316, ip16317, gtrc6318⟩ := u6315
    try dsimp only at hr6314
    have hP : va_P G.1 vwCl [(h0, .inr (12, [.ref nw, .ref nk, .int mhasKept, .ref nt, .int mtaped, .ref nr, .int mrowMany, .int mroundOf, .int mroundFrom, .int mouts, .ref nm, .int mfromHour, .int mtoHour, .ref ns, .int mfrom, .int mto, .int msort, .int misFault, .int mdeep, .int mcoded, .int mlines, .ref nl, .ref nc, .ref nF, .ref np, .ref ntr, .ref nb, .int mbestCost, .ref nso, .ref nsi, .ref nit, .ref nsh, .ref nsf, .ref nss, .ref nrc, .int (nI jr16316), .int 4, .int mnumber, .int mwhose, .int msize, .int ip16317])), (nrc, .inl (G.2.1, 30, .inl gtrc6318))] H := hP
    have hD : va_D A [(h0, .inr (12, [.ref nw, .ref nk, .int mhasKept, .ref nt, .int mtaped, .ref nr, .int mrowMany, .int mroundOf, .int mroundFrom, .int mouts, .ref nm, .int mfromHour, .int mtoHour, .ref ns, .int mfrom, .int mto, .int msort, .int misFault, .int mdeep, .int mcoded, .int mlines, .ref nl, .ref nc, .ref nF, .ref np, .ref ntr, .ref nb, .int mbestCost, .ref nso, .ref nsi, .ref nit, .ref nsh, .ref nsf, .ref nss, .ref nrc, .int (nI jr16316), .int 4, .int mnumber, .int mwhose, .int msize, .int ip16317])), (nrc, .inl (G.2.1, 30, .inl gtrc6318))] := hD
    obtain ⟨hr6314, w6319⟩ := hr6314
    exact RI (v := r6314) hC hP hD hS [0, 1] (jr16316, ip16317, gtrc6318) rfl rfl (by decide) (⟨trivial, by omega⟩) rfl dX12_dealt_10
  · refine iV (wr := []) hC hK hl hP hD hS hA (m_from51 l G h0 xx nw nk mhasKept nt mtaped nr mrowMany mroundOf mroundFrom mouts nm mfromHour mtoHour ns mfrom mto msort misFault mdeep mcoded mlines nl nc nF np ntr nb mbestCost nso nsi nit nsh nsf nss nrc jr 5 mnumber mwhose msize misParted fnrc (by omega) (by omega)) si_X12_357 [0, 1] [] rfl rfl (by decide) rfl (by decide) (by decide) rfl rfl rfl rfl rfl (Nat.le_of_ble_eq_true rfl) ⟨Nat.le_of_ble_eq_true rfl, Nat.le_of_ble_eq_true rfl⟩ ⟨Nat.le_of_ble_eq_true rfl, Nat.le_of_ble_eq_true rfl⟩ dX12_dealt_7 (fun r6320 u6321 H locs hr6320 hP hD hS => ?_)
    obtain ⟨jr16322, ip16323, gtrc6324⟩ := u6321
    try dsimp only at hr6320
    have hP : va_P G.1 vwCl [(h0, .inr (12, [.ref nw, .ref nk, .int mhasKept, .ref nt, .int mtaped, .ref nr, .int mrowMany, .int mroundOf, .int mroundFrom, .int mouts, .ref nm, .int mfromHour, .int mtoHour, .ref ns, .int mfrom, .int mto, .int msort, .int misFault, .int mdeep, .int mcoded, .int mlines, .ref nl, .ref nc, .ref nF, .ref np, .ref ntr, .ref nb, .int mbestCost, .ref nso, .ref nsi, .ref nit, .ref nsh, .ref nsf, .ref nss, .ref nrc, .int (nI jr16322), .int 5, .int mnumber, .int mwhose, .int msize, .int ip16323])), (nrc, .inl (G.2.1, 30, .inl gtrc6324))] H := hP
    have hD : va_D A [(h0, .inr (12, [.ref nw, .ref nk, .int mhasKept, .ref nt, .int mtaped, .ref nr, .int mrowMany, .int mroundOf, .int mroundFrom, .int mouts, .ref nm, .int mfromHour, .int mtoHour, .ref ns, .int mfrom, .int mto, .int msort, .int misFault, .int mdeep, .int mcoded, .int mlines, .ref nl, .ref nc, .ref nF, .ref np, .ref ntr, .ref nb, .int mbestCost, .ref nso, .ref nsi, .ref nit, .ref nsh, .ref nsf, .ref nss, .ref nrc, .int (nI jr16322), .int 5, .int mnumber, .int mwhose, .int msize, .int ip16323])), (nrc, .inl (G.2.1, 30, .inl gtrc6324))] := hD
    obtain ⟨hr6320, w6325⟩ := hr6320
    exact RI (v := r6320) hC hP hD hS [0, 1] (jr16322, ip16323, gtrc6324) rfl rfl (by decide) (⟨trivial, by omega⟩) rfl dX12_dealt_10
  · refine iV (wr := []) hC hK hl hP hD hS hA (m_from61 l G h0 xx nw nk mhasKept nt mtaped nr mrowMany mroundOf mroundFrom mouts nm mfromHour mtoHour ns mfrom mto msort misFault mdeep mcoded mlines nl nc nF np ntr nb mbestCost nso nsi nit nsh nsf nss nrc jr 6 mnumber mwhose msize misParted fnrc (by omega) (by omega)) si_X12_357 [0, 1] [] rfl rfl (by decide) rfl (by decide) (by decide) rfl rfl rfl rfl rfl (Nat.le_of_ble_eq_true rfl) ⟨Nat.le_of_ble_eq_true rfl, Nat.le_of_ble_eq_true rfl⟩ ⟨Nat.le_of_ble_eq_true rfl, Nat.le_of_ble_eq_true rfl⟩ dX12_dealt_7 (fun r6326 u6327 H locs hr6326 hP hD hS => ?_)
    obtain ⟨jr16328, ip16329, gtrc6330⟩ := u6327
    try dsimp only at hr6326
    have hP : va_P G.1 vwCl [(h0, .inr (12, [.ref nw, .ref nk, .int mhasKept, .ref nt, .int mtaped, .ref nr, .int mrowMany, .int mroundOf, .int mroundFrom, .int mouts, .ref nm, .int mfromHour, .int mtoHour, .ref ns, .int mfrom, .int mto, .int msort, .int misFault, .int mdeep, .int mcoded, .int mlines, .ref nl, .ref nc, .ref nF, .ref np, .ref ntr, .ref nb, .int mbestCost, .ref nso, .ref nsi, .ref nit, .ref nsh, .ref nsf, .ref nss, .ref nrc, .int (nI jr16328), .int 6, .int mnumber, .int mwhose, .int msize, .int ip16329])), (nrc, .inl (G.2.1, 30, .inl gtrc6330))] H := hP
    have hD : va_D A [(h0, .inr (12, [.ref nw, .ref nk, .int mhasKept, .ref nt, .int mtaped, .ref nr, .int mrowMany, .int mroundOf, .int mroundFrom, .int mouts, .ref nm, .int mfromHour, .int mtoHour, .ref ns, .int mfrom, .int mto, .int msort, .int misFault, .int mdeep, .int mcoded, .int mlines, .ref nl, .ref nc, .ref nF, .ref np, .ref ntr, .ref nb, .int mbestCost, .ref nso, .ref nsi, .ref nit, .ref nsh, .ref nsf, .ref nss, .ref nrc, .int (nI jr16328), .int 6, .int mnumber, .int mwhose, .int msize, .int ip16329])), (nrc, .inl (G.2.1, 30, .inl gtrc6330))] := hD
    obtain ⟨hr6326, w6331⟩ := hr6326
    exact RI (v := r6326) hC hP hD hS [0, 1] (jr16328, ip16329, gtrc6330) rfl rfl (by decide) (⟨trivial, by omega⟩) rfl dX12_dealt_10
set_option maxHeartbeats 4000000 in
set_option maxRecDepth 100000 in
theorem m_body02 (l : Launch) (G : GG) (h0 : Nat) (xx : Int32) (nw : Nat) (nk : Nat) (mhasKept : Int32) (nt : Nat) (mtaped : Int32) (nr : Nat) (mrowMany : Int32) (mroundOf : Int32) (mroundFrom : Int32) (mouts : Int32) (nm : Nat) (mfromHour : Int32) (mtoHour : Int32) (ns : Nat) (mfrom : Int32) (mto : Int32) (msort : Int32) (misFault : Int32) (mdeep : Int32) (mcoded : Int32) (mlines : Int32) (nl : Nat) (nc : Nat) (nF : Nat) (np : Nat) (ntr : Nat) (nb : Nat) (mbestCost : Int32) (nso : Nat) (nsi : Nat) (nit : Nat) (nsh : Nat) (nsf : Nat) (nss : Nat) (nrc : Nat) (jr : Nat) (jd : Nat) (mnumber : Int32) (mwhose : Int32) (msize : Int32) (misParted : Int32) (fnrc : Nat → Int32) (hjr : jr ≤ 30) (hjd : jd < 7) : MI l G yX12_body cX12_body 6 (some .int) 27 0 0 [.ref h0, .int 0, .int 2, .int xx] [(h0, .inr (12, [.ref nw, .ref nk, .int mhasKept, .ref nt, .int mtaped, .ref nr, .int mrowMany, .int mroundOf, .int mroundFrom, .int mouts, .ref nm, .int mfromHour, .int mtoHour, .ref ns, .int mfrom, .int mto, .int msort, .int misFault, .int mdeep, .int mcoded, .int mlines, .ref nl, .ref nc, .ref nF, .ref np, .ref ntr, .ref nb, .int mbestCost, .ref nso, .ref nsi, .ref nit, .ref nsh, .ref nsf, .ref nss, .ref nrc, .int (nI jr), .int (nI jd), .int mnumber, .int mwhose, .int msize, .int misParted])), (nrc, .inl (G.2.1, 30, .inl fnrc))] (fun (r : Int32) (u : Nat × Int32 × (Nat → Int32)) => (True) ∧ (u.1 ≤ 30)) (fun u : Nat × Int32 × (Nat → Int32) => [(h0, .inr (12, [.ref nw, .ref nk, .int mhasKept, .ref nt, .int mtaped, .ref nr, .int mrowMany, .int mroundOf, .int mroundFrom, .int mouts, .ref nm, .int mfromHour, .int mtoHour, .ref ns, .int mfrom, .int mto, .int msort, .int misFault, .int mdeep, .int mcoded, .int mlines, .ref nl, .ref nc, .ref nF, .ref np, .ref ntr, .ref nb, .int mbestCost, .ref nso, .ref nsi, .ref nit, .ref nsh, .ref nsf, .ref nss, .ref nrc, .int (nI u.1), .int (nI jd), .int mnumber, .int mwhose, .int msize, .int u.2.1])), (nrc, .inl (G.2.1, 30, .inl u.2.2))]) := by
  refine MI.start (by decide +kernel) (Nat.le_of_ble_eq_true rfl) ?_
  intro p e s m below meth c A ls hC hK hP hD hS hA hl
  have hl : lv_has ls 6 [(0, .ref h0), (1, .int 0), (2, .int 2), (3, .int xx)] := hl
  obtain ⟨hx, hb, hr, hml, hB, hown, hlocks, hnm⟩ := id hC
  refine lv_iconst (v := 4) hx hb dX12_body_0 (by decide) ?_
  refine lv_iload_n hx hb dX12_body_1 rfl (lv_at hl 1 rfl) ?_
  refine lv_imul hx hb dX12_body_2 ?_
  refine eqi (x1 := 0) (by decide) ?_
  refine lv_iload_n hx hb dX12_body_3 rfl (lv_at hl 2 rfl) ?_
  refine lv_iadd hx hb dX12_body_4 ?_
  refine eqi (x1 := 2) (by decide) ?_
  refine lv_tableIn (tgt := 140) hx hb dX12_body_5 (by decide) (by decide) rfl (by decide) ?_
  refine lv_aload_n hx hb dX12_body_140 rfl (lv_at hl 0 rfl) ?_
  refine lv_bipush (v := 12) hx hb dX12_body_141 (by decide) ?_
  refine vV (wr := []) hC hK hl hP hD hS hA (m_began l G h0 12 nw nk mhasKept nt mtaped nr mrowMany mroundOf mroundFrom mouts nm mfromHour mtoHour ns mfrom mto msort misFault mdeep mcoded mlines nl nc nF np ntr nb mbestCost nso nsi nit nsh nsf nss nrc jr (nI jd) mnumber mwhose msize misParted fnrc (by omega)) si_X12_366 [0, 1] [] rfl rfl (by decide) rfl (by decide) (by decide) rfl rfl rfl rfl rfl (Nat.le_of_ble_eq_true rfl) ⟨Nat.le_of_ble_eq_true rfl, Nat.le_of_ble_eq_true rfl⟩ ⟨Nat.le_of_ble_eq_true rfl, Nat.le_of_ble_eq_true rfl⟩ dX12_body_143 (fun u6333 H locs hr6332 hP hD hS => ?_)
  obtain ⟨jr16334, gtrc6335⟩ := u6333
  try dsimp only at hr6332
  have hP : va_P G.1 vwCl [(h0, .inr (12, [.ref nw, .ref nk, .int mhasKept, .ref nt, .int mtaped, .ref nr, .int mrowMany, .int mroundOf, .int mroundFrom, .int mouts, .ref nm, .int mfromHour, .int mtoHour, .ref ns, .int mfrom, .int mto, .int msort, .int misFault, .int mdeep, .int mcoded, .int mlines, .ref nl, .ref nc, .ref nF, .ref np, .ref ntr, .ref nb, .int mbestCost, .ref nso, .ref nsi, .ref nit, .ref nsh, .ref nsf, .ref nss, .ref nrc, .int (nI jr16334), .int (nI jd), .int mnumber, .int mwhose, .int msize, .int misParted])), (nrc, .inl (G.2.1, 30, .inl gtrc6335))] H := hP
  have hD : va_D A [(h0, .inr (12, [.ref nw, .ref nk, .int mhasKept, .ref nt, .int mtaped, .ref nr, .int mrowMany, .int mroundOf, .int mroundFrom, .int mouts, .ref nm, .int mfromHour, .int mtoHour, .ref ns, .int mfrom, .int mto, .int msort, .int misFault, .int mdeep, .int mcoded, .int mlines, .ref nl, .ref nc, .ref nF, .ref np, .ref ntr, .ref nb, .int mbestCost, .ref nso, .ref nsi, .ref nit, .ref nsh, .ref nsf, .ref nss, .ref nrc, .int (nI jr16334), .int (nI jd), .int mnumber, .int mwhose, .int msize, .int misParted])), (nrc, .inl (G.2.1, 30, .inl gtrc6335))] := hD
  have w6336 := hr6332
  refine lv_aload_n hx hb dX12_body_146 rfl (lv_at hl 0 rfl) ?_
  refine lv_iconst (v := 1) hx hb dX12_body_147 (by decide) ?_
  refine lv_iload_n hx hb dX12_body_148 rfl (lv_at hl 3 rfl) ?_
  refine iV (wr := []) hC hK hl hP hD hS hA (m_dealt1 l G h0 xx nw nk mhasKept nt mtaped nr mrowMany mroundOf mroundFrom mouts nm mfromHour mtoHour ns mfrom mto msort misFault mdeep mcoded mlines nl nc nF np ntr nb mbestCost nso nsi nit nsh nsf nss nrc jr16334 jd mnumber mwhose msize misParted gtrc6335 (by omega) (by omega)) si_X12_372 [0, 1] [] rfl rfl (by decide) rfl (by decide) (by decide) rfl rfl rfl rfl rfl (Nat.le_of_ble_eq_true rfl) ⟨Nat.le_of_ble_eq_true rfl, Nat.le_of_ble_eq_true rfl⟩ ⟨Nat.le_of_ble_eq_true rfl, Nat.le_of_ble_eq_true rfl⟩ dX12_body_149 (fun r6337 u6338 H locs hr6337 hP hD hS => ?_)
  obtain ⟨jr16339, ip16340, gtrc6341⟩ := u6338
  try dsimp only at hr6337
  have hP : va_P G.1 vwCl [(h0, .inr (12, [.ref nw, .ref nk, .int mhasKept, .ref nt, .int mtaped, .ref nr, .int mrowMany, .int mroundOf, .int mroundFrom, .int mouts, .ref nm, .int mfromHour, .int mtoHour, .ref ns, .int mfrom, .int mto, .int msort, .int misFault, .int mdeep, .int mcoded, .int mlines, .ref nl, .ref nc, .ref nF, .ref np, .ref ntr, .ref nb, .int mbestCost, .ref nso, .ref nsi, .ref nit, .ref nsh, .ref nsf, .ref nss, .ref nrc, .int (nI jr16339), .int (nI jd), .int mnumber, .int mwhose, .int msize, .int ip16340])), (nrc, .inl (G.2.1, 30, .inl gtrc6341))] H := hP
  have hD : va_D A [(h0, .inr (12, [.ref nw, .ref nk, .int mhasKept, .ref nt, .int mtaped, .ref nr, .int mrowMany, .int mroundOf, .int mroundFrom, .int mouts, .ref nm, .int mfromHour, .int mtoHour, .ref ns, .int mfrom, .int mto, .int msort, .int misFault, .int mdeep, .int mcoded, .int mlines, .ref nl, .ref nc, .ref nF, .ref np, .ref ntr, .ref nb, .int mbestCost, .ref nso, .ref nsi, .ref nit, .ref nsh, .ref nsf, .ref nss, .ref nrc, .int (nI jr16339), .int (nI jd), .int mnumber, .int mwhose, .int msize, .int ip16340])), (nrc, .inl (G.2.1, 30, .inl gtrc6341))] := hD
  obtain ⟨hr6337, w6342⟩ := hr6337
  refine lv_aload_n hx hb dX12_body_152 rfl (lv_at hl 0 rfl) ?_
  refine gf_X12_375 hC rfl hK hP 0 rfl rfl dX12_body_153 ?_
  refine lv_isub hx hb dX12_body_156 ?_
  exact RI (v := r6337 - mwhose) hC hP hD hS [0, 1] (jr16339, ip16340, gtrc6341) rfl rfl (by decide) (⟨trivial, by omega⟩) rfl dX12_body_157
set_option maxHeartbeats 4000000 in
set_option maxRecDepth 100000 in
theorem m_from02 (l : Launch) (G : GG) (h0 : Nat) (xx : Int32) (nw : Nat) (nk : Nat) (mhasKept : Int32) (nt : Nat) (mtaped : Int32) (nr : Nat) (mrowMany : Int32) (mroundOf : Int32) (mroundFrom : Int32) (mouts : Int32) (nm : Nat) (mfromHour : Int32) (mtoHour : Int32) (ns : Nat) (mfrom : Int32) (mto : Int32) (msort : Int32) (misFault : Int32) (mdeep : Int32) (mcoded : Int32) (mlines : Int32) (nl : Nat) (nc : Nat) (nF : Nat) (np : Nat) (ntr : Nat) (nb : Nat) (mbestCost : Int32) (nso : Nat) (nsi : Nat) (nit : Nat) (nsh : Nat) (nsf : Nat) (nss : Nat) (nrc : Nat) (jr : Nat) (jd : Nat) (mnumber : Int32) (mwhose : Int32) (msize : Int32) (misParted : Int32) (fnrc : Nat → Int32) (hjr : jr ≤ 30) (hjd : jd < 7) : MI l G yX12_bodyFrom cX12_bodyFrom 5 (some .int) 28 0 0 [.ref h0, .int 0, .int 2, .int xx] [(h0, .inr (12, [.ref nw, .ref nk, .int mhasKept, .ref nt, .int mtaped, .ref nr, .int mrowMany, .int mroundOf, .int mroundFrom, .int mouts, .ref nm, .int mfromHour, .int mtoHour, .ref ns, .int mfrom, .int mto, .int msort, .int misFault, .int mdeep, .int mcoded, .int mlines, .ref nl, .ref nc, .ref nF, .ref np, .ref ntr, .ref nb, .int mbestCost, .ref nso, .ref nsi, .ref nit, .ref nsh, .ref nsf, .ref nss, .ref nrc, .int (nI jr), .int (nI jd), .int mnumber, .int mwhose, .int msize, .int misParted])), (nrc, .inl (G.2.1, 30, .inl fnrc))] (fun (r : Int32) (u : Nat × Int32 × (Nat → Int32)) => (True) ∧ (u.1 ≤ 30)) (fun u : Nat × Int32 × (Nat → Int32) => [(h0, .inr (12, [.ref nw, .ref nk, .int mhasKept, .ref nt, .int mtaped, .ref nr, .int mrowMany, .int mroundOf, .int mroundFrom, .int mouts, .ref nm, .int mfromHour, .int mtoHour, .ref ns, .int mfrom, .int mto, .int msort, .int misFault, .int mdeep, .int mcoded, .int mlines, .ref nl, .ref nc, .ref nF, .ref np, .ref ntr, .ref nb, .int mbestCost, .ref nso, .ref nsi, .ref nit, .ref nsh, .ref nsf, .ref nss, .ref nrc, .int (nI u.1), .int (nI jd), .int mnumber, .int mwhose, .int msize, .int u.2.1])), (nrc, .inl (G.2.1, 30, .inl u.2.2))]) := by
  refine MI.start (by decide +kernel) (Nat.le_of_ble_eq_true rfl) ?_
  intro p e s m below meth c A ls hC hK hP hD hS hA hl
  have hl : lv_has ls 5 [(0, .ref h0), (1, .int 0), (2, .int 2), (3, .int xx)] := hl
  obtain ⟨hx, hb, hr, hml, hB, hown, hlocks, hnm⟩ := id hC
  refine lv_iload_n hx hb dX12_bodyFrom_0 rfl (lv_at hl 1 rfl) ?_
  refine lv_istore (lv' := [(4, .int 0), (0, .ref h0), (1, .int 0), (2, .int 2), (3, .int xx)]) hx hb dX12_bodyFrom_1 hl (by decide) rfl (fun ls hl => ?_)
  refine lv_iload hx hb dX12_bodyFrom_3 (lv_at hl 0 rfl) ?_
  refine lv_iload_n hx hb dX12_bodyFrom_5 rfl (lv_at hl 3 rfl) ?_
  refine pS hC hK hl (m_hasOwn02 l G) si_X12_360 rfl rfl (Nat.le_of_ble_eq_true rfl) ⟨Nat.le_of_ble_eq_true rfl, Nat.le_of_ble_eq_true rfl⟩ ⟨by first | exact Nat.le_of_ble_eq_true rfl | exact Nat.zero_le _, by first | exact Nat.le_of_ble_eq_true rfl | exact Nat.zero_le _⟩ dX12_bodyFrom_6 (fun r6343 hr6343 => ?_)
  obtain rfl := hr6343
  refine lv_if_ne (tgt := 22) hx hb dX12_bodyFrom_9 (by decide) (fun _ => ?_) (fun c9 => absurd c9 (by decide))
  refine lv_aload_n hx hb dX12_bodyFrom_22 rfl (lv_at hl 1 rfl) ?_
  refine lv_iload hx hb dX12_bodyFrom_23 (lv_at hl 0 rfl) ?_
  refine lv_iload_n hx hb dX12_bodyFrom_25 rfl (lv_at hl 3 rfl) ?_
  refine lv_iload_n hx hb dX12_bodyFrom_26 rfl (lv_at hl 4 rfl) ?_
  refine iV (wr := []) hC hK hl hP hD hS hA (m_body02 l G h0 xx nw nk mhasKept nt mtaped nr mrowMany mroundOf mroundFrom mouts nm mfromHour mtoHour ns mfrom mto msort misFault mdeep mcoded mlines nl nc nF np ntr nb mbestCost nso nsi nit nsh nsf nss nrc jr jd mnumber mwhose msize misParted fnrc (by omega) (by omega)) si_X12_363 [0, 1] [] rfl rfl (by decide) rfl (by decide) (by decide) rfl rfl rfl rfl rfl (Nat.le_of_ble_eq_true rfl) ⟨Nat.le_of_ble_eq_true rfl, Nat.le_of_ble_eq_true rfl⟩ ⟨Nat.le_of_ble_eq_true rfl, Nat.le_of_ble_eq_true rfl⟩ dX12_bodyFrom_27 (fun r6345 u6346 H locs hr6345 hP hD hS => ?_)
  obtain ⟨jr16347, ip16348, gtrc6349⟩ := u6346
  try dsimp only at hr6345
  have hP : va_P G.1 vwCl [(h0, .inr (12, [.ref nw, .ref nk, .int mhasKept, .ref nt, .int mtaped, .ref nr, .int mrowMany, .int mroundOf, .int mroundFrom, .int mouts, .ref nm, .int mfromHour, .int mtoHour, .ref ns, .int mfrom, .int mto, .int msort, .int misFault, .int mdeep, .int mcoded, .int mlines, .ref nl, .ref nc, .ref nF, .ref np, .ref ntr, .ref nb, .int mbestCost, .ref nso, .ref nsi, .ref nit, .ref nsh, .ref nsf, .ref nss, .ref nrc, .int (nI jr16347), .int (nI jd), .int mnumber, .int mwhose, .int msize, .int ip16348])), (nrc, .inl (G.2.1, 30, .inl gtrc6349))] H := hP
  have hD : va_D A [(h0, .inr (12, [.ref nw, .ref nk, .int mhasKept, .ref nt, .int mtaped, .ref nr, .int mrowMany, .int mroundOf, .int mroundFrom, .int mouts, .ref nm, .int mfromHour, .int mtoHour, .ref ns, .int mfrom, .int mto, .int msort, .int misFault, .int mdeep, .int mcoded, .int mlines, .ref nl, .ref nc, .ref nF, .ref np, .ref ntr, .ref nb, .int mbestCost, .ref nso, .ref nsi, .ref nit, .ref nsh, .ref nsf, .ref nss, .ref nrc, .int (nI jr16347), .int (nI jd), .int mnumber, .int mwhose, .int msize, .int ip16348])), (nrc, .inl (G.2.1, 30, .inl gtrc6349))] := hD
  obtain ⟨hr6345, w6350⟩ := hr6345
  exact RI (v := r6345) hC hP hD hS [0, 1] (jr16347, ip16348, gtrc6349) rfl rfl (by decide) (⟨trivial, by omega⟩) rfl dX12_bodyFrom_30
set_option maxHeartbeats 4000000 in
set_option maxRecDepth 100000 in
theorem m_body22 (l : Launch) (G : GG) (h0 : Nat) (xx : Int32) (nw : Nat) (nk : Nat) (mhasKept : Int32) (nt : Nat) (mtaped : Int32) (nr : Nat) (mrowMany : Int32) (mroundOf : Int32) (mroundFrom : Int32) (mouts : Int32) (nm : Nat) (mfromHour : Int32) (mtoHour : Int32) (ns : Nat) (mfrom : Int32) (mto : Int32) (msort : Int32) (misFault : Int32) (mdeep : Int32) (mcoded : Int32) (mlines : Int32) (nl : Nat) (nc : Nat) (nF : Nat) (np : Nat) (ntr : Nat) (nb : Nat) (mbestCost : Int32) (nso : Nat) (nsi : Nat) (nit : Nat) (nsh : Nat) (nsf : Nat) (nss : Nat) (nrc : Nat) (jr : Nat) (jd : Nat) (mnumber : Int32) (mwhose : Int32) (msize : Int32) (misParted : Int32) (fnrc : Nat → Int32) (hjr : jr ≤ 30) (hjd : jd < 7) : MI l G yX12_body cX12_body 6 (some .int) 29 0 0 [.ref h0, .int 2, .int 2, .int xx] [(h0, .inr (12, [.ref nw, .ref nk, .int mhasKept, .ref nt, .int mtaped, .ref nr, .int mrowMany, .int mroundOf, .int mroundFrom, .int mouts, .ref nm, .int mfromHour, .int mtoHour, .ref ns, .int mfrom, .int mto, .int msort, .int misFault, .int mdeep, .int mcoded, .int mlines, .ref nl, .ref nc, .ref nF, .ref np, .ref ntr, .ref nb, .int mbestCost, .ref nso, .ref nsi, .ref nit, .ref nsh, .ref nsf, .ref nss, .ref nrc, .int (nI jr), .int (nI jd), .int mnumber, .int mwhose, .int msize, .int misParted])), (nrc, .inl (G.2.1, 30, .inl fnrc))] (fun (r : Int32) (u : Nat × Int32 × (Nat → Int32)) => (True) ∧ (u.1 ≤ 30)) (fun u : Nat × Int32 × (Nat → Int32) => [(h0, .inr (12, [.ref nw, .ref nk, .int mhasKept, .ref nt, .int mtaped, .ref nr, .int mrowMany, .int mroundOf, .int mroundFrom, .int mouts, .ref nm, .int mfromHour, .int mtoHour, .ref ns, .int mfrom, .int mto, .int msort, .int misFault, .int mdeep, .int mcoded, .int mlines, .ref nl, .ref nc, .ref nF, .ref np, .ref ntr, .ref nb, .int mbestCost, .ref nso, .ref nsi, .ref nit, .ref nsh, .ref nsf, .ref nss, .ref nrc, .int (nI u.1), .int (nI jd), .int mnumber, .int mwhose, .int msize, .int u.2.1])), (nrc, .inl (G.2.1, 30, .inl u.2.2))]) := by
  refine MI.start (by decide +kernel) (Nat.le_of_ble_eq_true rfl) ?_
  intro p e s m below meth c A ls hC hK hP hD hS hA hl
  have hl : lv_has ls 6 [(0, .ref h0), (1, .int 2), (2, .int 2), (3, .int xx)] := hl
  obtain ⟨hx, hb, hr, hml, hB, hown, hlocks, hnm⟩ := id hC
  refine lv_iconst (v := 4) hx hb dX12_body_0 (by decide) ?_
  refine lv_iload_n hx hb dX12_body_1 rfl (lv_at hl 1 rfl) ?_
  refine lv_imul hx hb dX12_body_2 ?_
  refine eqi (x1 := 8) (by decide) ?_
  refine lv_iload_n hx hb dX12_body_3 rfl (lv_at hl 2 rfl) ?_
  refine lv_iadd hx hb dX12_body_4 ?_
  refine eqi (x1 := 10) (by decide) ?_
  refine lv_tableIn (tgt := 226) hx hb dX12_body_5 (by decide) (by decide) rfl (by decide) ?_
  refine lv_aload_n hx hb dX12_body_226 rfl (lv_at hl 0 rfl) ?_
  refine lv_bipush (v := 30) hx hb dX12_body_227 (by decide) ?_
  refine vV (wr := []) hC hK hl hP hD hS hA (m_began l G h0 30 nw nk mhasKept nt mtaped nr mrowMany mroundOf mroundFrom mouts nm mfromHour mtoHour ns mfrom mto msort misFault mdeep mcoded mlines nl nc nF np ntr nb mbestCost nso nsi nit nsh nsf nss nrc jr (nI jd) mnumber mwhose msize misParted fnrc (by omega)) si_X12_366 [0, 1] [] rfl rfl (by decide) rfl (by decide) (by decide) rfl rfl rfl rfl rfl (Nat.le_of_ble_eq_true rfl) ⟨Nat.le_of_ble_eq_true rfl, Nat.le_of_ble_eq_true rfl⟩ ⟨Nat.le_of_ble_eq_true rfl, Nat.le_of_ble_eq_true rfl⟩ dX12_body_229 (fun u6352 H locs hr6351 hP hD hS => ?_)
  obtain ⟨jr16353, gtrc6354⟩ := u6352
  try dsimp only at hr6351
  have hP : va_P G.1 vwCl [(h0, .inr (12, [.ref nw, .ref nk, .int mhasKept, .ref nt, .int mtaped, .ref nr, .int mrowMany, .int mroundOf, .int mroundFrom, .int mouts, .ref nm, .int mfromHour, .int mtoHour, .ref ns, .int mfrom, .int mto, .int msort, .int misFault, .int mdeep, .int mcoded, .int mlines, .ref nl, .ref nc, .ref nF, .ref np, .ref ntr, .ref nb, .int mbestCost, .ref nso, .ref nsi, .ref nit, .ref nsh, .ref nsf, .ref nss, .ref nrc, .int (nI jr16353), .int (nI jd), .int mnumber, .int mwhose, .int msize, .int misParted])), (nrc, .inl (G.2.1, 30, .inl gtrc6354))] H := hP
  have hD : va_D A [(h0, .inr (12, [.ref nw, .ref nk, .int mhasKept, .ref nt, .int mtaped, .ref nr, .int mrowMany, .int mroundOf, .int mroundFrom, .int mouts, .ref nm, .int mfromHour, .int mtoHour, .ref ns, .int mfrom, .int mto, .int msort, .int misFault, .int mdeep, .int mcoded, .int mlines, .ref nl, .ref nc, .ref nF, .ref np, .ref ntr, .ref nb, .int mbestCost, .ref nso, .ref nsi, .ref nit, .ref nsh, .ref nsf, .ref nss, .ref nrc, .int (nI jr16353), .int (nI jd), .int mnumber, .int mwhose, .int msize, .int misParted])), (nrc, .inl (G.2.1, 30, .inl gtrc6354))] := hD
  have w6355 := hr6351
  refine lv_aload_n hx hb dX12_body_232 rfl (lv_at hl 0 rfl) ?_
  refine lv_iconst (v := 0) hx hb dX12_body_233 (by decide) ?_
  refine lv_iconst (v := 2) hx hb dX12_body_234 (by decide) ?_
  refine lv_iload_n hx hb dX12_body_235 rfl (lv_at hl 3 rfl) ?_
  refine iV (wr := []) hC hK hl hP hD hS hA (m_from02 l G h0 xx nw nk mhasKept nt mtaped nr mrowMany mroundOf mroundFrom mouts nm mfromHour mtoHour ns mfrom mto msort misFault mdeep mcoded mlines nl nc nF np ntr nb mbestCost nso nsi nit nsh nsf nss nrc jr16353 jd mnumber mwhose msize misParted gtrc6354 (by omega) (by omega)) si_X12_357 [0, 1] [] rfl rfl (by decide) rfl (by decide) (by decide) rfl rfl rfl rfl rfl (Nat.le_of_ble_eq_true rfl) ⟨Nat.le_of_ble_eq_true rfl, Nat.le_of_ble_eq_true rfl⟩ ⟨Nat.le_of_ble_eq_true rfl, Nat.le_of_ble_eq_true rfl⟩ dX12_body_236 (fun r6356 u6357 H locs hr6356 hP hD hS => ?_)
  obtain ⟨jr16358, ip16359, gtrc6360⟩ := u6357
  try dsimp only at hr6356
  have hP : va_P G.1 vwCl [(h0, .inr (12, [.ref nw, .ref nk, .int mhasKept, .ref nt, .int mtaped, .ref nr, .int mrowMany, .int mroundOf, .int mroundFrom, .int mouts, .ref nm, .int mfromHour, .int mtoHour, .ref ns, .int mfrom, .int mto, .int msort, .int misFault, .int mdeep, .int mcoded, .int mlines, .ref nl, .ref nc, .ref nF, .ref np, .ref ntr, .ref nb, .int mbestCost, .ref nso, .ref nsi, .ref nit, .ref nsh, .ref nsf, .ref nss, .ref nrc, .int (nI jr16358), .int (nI jd), .int mnumber, .int mwhose, .int msize, .int ip16359])), (nrc, .inl (G.2.1, 30, .inl gtrc6360))] H := hP
  have hD : va_D A [(h0, .inr (12, [.ref nw, .ref nk, .int mhasKept, .ref nt, .int mtaped, .ref nr, .int mrowMany, .int mroundOf, .int mroundFrom, .int mouts, .ref nm, .int mfromHour, .int mtoHour, .ref ns, .int mfrom, .int mto, .int msort, .int misFault, .int mdeep, .int mcoded, .int mlines, .ref nl, .ref nc, .ref nF, .ref np, .ref ntr, .ref nb, .int mbestCost, .ref nso, .ref nsi, .ref nit, .ref nsh, .ref nsf, .ref nss, .ref nrc, .int (nI jr16358), .int (nI jd), .int mnumber, .int mwhose, .int msize, .int ip16359])), (nrc, .inl (G.2.1, 30, .inl gtrc6360))] := hD
  obtain ⟨hr6356, w6361⟩ := hr6356
  refine lv_iconst (v := 3) hx hb dX12_body_239 (by decide) ?_
  refine lv_imul hx hb dX12_body_240 ?_
  exact RI (v := r6356 * 3) hC hP hD hS [0, 1] (jr16358, ip16359, gtrc6360) rfl rfl (by decide) (⟨trivial, by omega⟩) rfl dX12_body_241
set_option maxHeartbeats 4000000 in
set_option maxRecDepth 100000 in
theorem m_from22 (l : Launch) (G : GG) (h0 : Nat) (xx : Int32) (nw : Nat) (nk : Nat) (mhasKept : Int32) (nt : Nat) (mtaped : Int32) (nr : Nat) (mrowMany : Int32) (mroundOf : Int32) (mroundFrom : Int32) (mouts : Int32) (nm : Nat) (mfromHour : Int32) (mtoHour : Int32) (ns : Nat) (mfrom : Int32) (mto : Int32) (msort : Int32) (misFault : Int32) (mdeep : Int32) (mcoded : Int32) (mlines : Int32) (nl : Nat) (nc : Nat) (nF : Nat) (np : Nat) (ntr : Nat) (nb : Nat) (mbestCost : Int32) (nso : Nat) (nsi : Nat) (nit : Nat) (nsh : Nat) (nsf : Nat) (nss : Nat) (nrc : Nat) (jr : Nat) (jd : Nat) (mnumber : Int32) (mwhose : Int32) (msize : Int32) (misParted : Int32) (fnrc : Nat → Int32) (hjr : jr ≤ 30) (hjd : jd < 7) : MI l G yX12_bodyFrom cX12_bodyFrom 5 (some .int) 30 0 0 [.ref h0, .int 2, .int 2, .int xx] [(h0, .inr (12, [.ref nw, .ref nk, .int mhasKept, .ref nt, .int mtaped, .ref nr, .int mrowMany, .int mroundOf, .int mroundFrom, .int mouts, .ref nm, .int mfromHour, .int mtoHour, .ref ns, .int mfrom, .int mto, .int msort, .int misFault, .int mdeep, .int mcoded, .int mlines, .ref nl, .ref nc, .ref nF, .ref np, .ref ntr, .ref nb, .int mbestCost, .ref nso, .ref nsi, .ref nit, .ref nsh, .ref nsf, .ref nss, .ref nrc, .int (nI jr), .int (nI jd), .int mnumber, .int mwhose, .int msize, .int misParted])), (nrc, .inl (G.2.1, 30, .inl fnrc))] (fun (r : Int32) (u : Nat × Int32 × (Nat → Int32)) => (True) ∧ (u.1 ≤ 30)) (fun u : Nat × Int32 × (Nat → Int32) => [(h0, .inr (12, [.ref nw, .ref nk, .int mhasKept, .ref nt, .int mtaped, .ref nr, .int mrowMany, .int mroundOf, .int mroundFrom, .int mouts, .ref nm, .int mfromHour, .int mtoHour, .ref ns, .int mfrom, .int mto, .int msort, .int misFault, .int mdeep, .int mcoded, .int mlines, .ref nl, .ref nc, .ref nF, .ref np, .ref ntr, .ref nb, .int mbestCost, .ref nso, .ref nsi, .ref nit, .ref nsh, .ref nsf, .ref nss, .ref nrc, .int (nI u.1), .int (nI jd), .int mnumber, .int mwhose, .int msize, .int u.2.1])), (nrc, .inl (G.2.1, 30, .inl u.2.2))]) := by
  refine MI.start (by decide +kernel) (Nat.le_of_ble_eq_true rfl) ?_
  intro p e s m below meth c A ls hC hK hP hD hS hA hl
  have hl : lv_has ls 5 [(0, .ref h0), (1, .int 2), (2, .int 2), (3, .int xx)] := hl
  obtain ⟨hx, hb, hr, hml, hB, hown, hlocks, hnm⟩ := id hC
  refine lv_iload_n hx hb dX12_bodyFrom_0 rfl (lv_at hl 1 rfl) ?_
  refine lv_istore (lv' := [(4, .int 2), (0, .ref h0), (1, .int 2), (2, .int 2), (3, .int xx)]) hx hb dX12_bodyFrom_1 hl (by decide) rfl (fun ls hl => ?_)
  refine lv_iload hx hb dX12_bodyFrom_3 (lv_at hl 0 rfl) ?_
  refine lv_iload_n hx hb dX12_bodyFrom_5 rfl (lv_at hl 3 rfl) ?_
  refine pS hC hK hl (m_hasOwn22 l G) si_X12_360 rfl rfl (Nat.le_of_ble_eq_true rfl) ⟨Nat.le_of_ble_eq_true rfl, Nat.le_of_ble_eq_true rfl⟩ ⟨by first | exact Nat.le_of_ble_eq_true rfl | exact Nat.zero_le _, by first | exact Nat.le_of_ble_eq_true rfl | exact Nat.zero_le _⟩ dX12_bodyFrom_6 (fun r6362 hr6362 => ?_)
  obtain rfl := hr6362
  refine lv_if_ne (tgt := 22) hx hb dX12_bodyFrom_9 (by decide) (fun _ => ?_) (fun c9 => absurd c9 (by decide))
  refine lv_aload_n hx hb dX12_bodyFrom_22 rfl (lv_at hl 1 rfl) ?_
  refine lv_iload hx hb dX12_bodyFrom_23 (lv_at hl 0 rfl) ?_
  refine lv_iload_n hx hb dX12_bodyFrom_25 rfl (lv_at hl 3 rfl) ?_
  refine lv_iload_n hx hb dX12_bodyFrom_26 rfl (lv_at hl 4 rfl) ?_
  refine iV (wr := []) hC hK hl hP hD hS hA (m_body22 l G h0 xx nw nk mhasKept nt mtaped nr mrowMany mroundOf mroundFrom mouts nm mfromHour mtoHour ns mfrom mto msort misFault mdeep mcoded mlines nl nc nF np ntr nb mbestCost nso nsi nit nsh nsf nss nrc jr jd mnumber mwhose msize misParted fnrc (by omega) (by omega)) si_X12_363 [0, 1] [] rfl rfl (by decide) rfl (by decide) (by decide) rfl rfl rfl rfl rfl (Nat.le_of_ble_eq_true rfl) ⟨Nat.le_of_ble_eq_true rfl, Nat.le_of_ble_eq_true rfl⟩ ⟨Nat.le_of_ble_eq_true rfl, Nat.le_of_ble_eq_true rfl⟩ dX12_bodyFrom_27 (fun r6364 u6365 H locs hr6364 hP hD hS => ?_)
  obtain ⟨jr16366, ip16367, gtrc6368⟩ := u6365
  try dsimp only at hr6364
  have hP : va_P G.1 vwCl [(h0, .inr (12, [.ref nw, .ref nk, .int mhasKept, .ref nt, .int mtaped, .ref nr, .int mrowMany, .int mroundOf, .int mroundFrom, .int mouts, .ref nm, .int mfromHour, .int mtoHour, .ref ns, .int mfrom, .int mto, .int msort, .int misFault, .int mdeep, .int mcoded, .int mlines, .ref nl, .ref nc, .ref nF, .ref np, .ref ntr, .ref nb, .int mbestCost, .ref nso, .ref nsi, .ref nit, .ref nsh, .ref nsf, .ref nss, .ref nrc, .int (nI jr16366), .int (nI jd), .int mnumber, .int mwhose, .int msize, .int ip16367])), (nrc, .inl (G.2.1, 30, .inl gtrc6368))] H := hP
  have hD : va_D A [(h0, .inr (12, [.ref nw, .ref nk, .int mhasKept, .ref nt, .int mtaped, .ref nr, .int mrowMany, .int mroundOf, .int mroundFrom, .int mouts, .ref nm, .int mfromHour, .int mtoHour, .ref ns, .int mfrom, .int mto, .int msort, .int misFault, .int mdeep, .int mcoded, .int mlines, .ref nl, .ref nc, .ref nF, .ref np, .ref ntr, .ref nb, .int mbestCost, .ref nso, .ref nsi, .ref nit, .ref nsh, .ref nsf, .ref nss, .ref nrc, .int (nI jr16366), .int (nI jd), .int mnumber, .int mwhose, .int msize, .int ip16367])), (nrc, .inl (G.2.1, 30, .inl gtrc6368))] := hD
  obtain ⟨hr6364, w6369⟩ := hr6364
  exact RI (v := r6364) hC hP hD hS [0, 1] (jr16366, ip16367, gtrc6368) rfl rfl (by decide) (⟨trivial, by omega⟩) rfl dX12_bodyFrom_30
set_option maxHeartbeats 4000000 in
set_option maxRecDepth 100000 in
theorem m_body42 (l : Launch) (G : GG) (h0 : Nat) (xx : Int32) (nw : Nat) (nk : Nat) (mhasKept : Int32) (nt : Nat) (mtaped : Int32) (nr : Nat) (mrowMany : Int32) (mroundOf : Int32) (mroundFrom : Int32) (mouts : Int32) (nm : Nat) (mfromHour : Int32) (mtoHour : Int32) (ns : Nat) (mfrom : Int32) (mto : Int32) (msort : Int32) (misFault : Int32) (mdeep : Int32) (mcoded : Int32) (mlines : Int32) (nl : Nat) (nc : Nat) (nF : Nat) (np : Nat) (ntr : Nat) (nb : Nat) (mbestCost : Int32) (nso : Nat) (nsi : Nat) (nit : Nat) (nsh : Nat) (nsf : Nat) (nss : Nat) (nrc : Nat) (jr : Nat) (jd : Nat) (mnumber : Int32) (mwhose : Int32) (msize : Int32) (misParted : Int32) (fnrc : Nat → Int32) (hjr : jr ≤ 30) (hjd : jd < 7) : MI l G yX12_body cX12_body 6 (some .int) 31 0 0 [.ref h0, .int 4, .int 2, .int xx] [(h0, .inr (12, [.ref nw, .ref nk, .int mhasKept, .ref nt, .int mtaped, .ref nr, .int mrowMany, .int mroundOf, .int mroundFrom, .int mouts, .ref nm, .int mfromHour, .int mtoHour, .ref ns, .int mfrom, .int mto, .int msort, .int misFault, .int mdeep, .int mcoded, .int mlines, .ref nl, .ref nc, .ref nF, .ref np, .ref ntr, .ref nb, .int mbestCost, .ref nso, .ref nsi, .ref nit, .ref nsh, .ref nsf, .ref nss, .ref nrc, .int (nI jr), .int (nI jd), .int mnumber, .int mwhose, .int msize, .int misParted])), (nrc, .inl (G.2.1, 30, .inl fnrc))] (fun (r : Int32) (u : Nat × Int32 × (Nat → Int32)) => (True) ∧ (u.1 ≤ 30)) (fun u : Nat × Int32 × (Nat → Int32) => [(h0, .inr (12, [.ref nw, .ref nk, .int mhasKept, .ref nt, .int mtaped, .ref nr, .int mrowMany, .int mroundOf, .int mroundFrom, .int mouts, .ref nm, .int mfromHour, .int mtoHour, .ref ns, .int mfrom, .int mto, .int msort, .int misFault, .int mdeep, .int mcoded, .int mlines, .ref nl, .ref nc, .ref nF, .ref np, .ref ntr, .ref nb, .int mbestCost, .ref nso, .ref nsi, .ref nit, .ref nsh, .ref nsf, .ref nss, .ref nrc, .int (nI u.1), .int (nI jd), .int mnumber, .int mwhose, .int msize, .int u.2.1])), (nrc, .inl (G.2.1, 30, .inl u.2.2))]) := by
  refine MI.start (by decide +kernel) (Nat.le_of_ble_eq_true rfl) ?_
  intro p e s m below meth c A ls hC hK hP hD hS hA hl
  have hl : lv_has ls 6 [(0, .ref h0), (1, .int 4), (2, .int 2), (3, .int xx)] := hl
  obtain ⟨hx, hb, hr, hml, hB, hown, hlocks, hnm⟩ := id hC
  refine lv_iconst (v := 4) hx hb dX12_body_0 (by decide) ?_
  refine lv_iload_n hx hb dX12_body_1 rfl (lv_at hl 1 rfl) ?_
  refine lv_imul hx hb dX12_body_2 ?_
  refine eqi (x1 := 16) (by decide) ?_
  refine lv_iload_n hx hb dX12_body_3 rfl (lv_at hl 2 rfl) ?_
  refine lv_iadd hx hb dX12_body_4 ?_
  refine eqi (x1 := 18) (by decide) ?_
  refine lv_tableIn (tgt := 293) hx hb dX12_body_5 (by decide) (by decide) rfl (by decide) ?_
  refine lv_aload_n hx hb dX12_body_293 rfl (lv_at hl 0 rfl) ?_
  refine lv_bipush (v := 51) hx hb dX12_body_294 (by decide) ?_
  refine vV (wr := []) hC hK hl hP hD hS hA (m_began l G h0 51 nw nk mhasKept nt mtaped nr mrowMany mroundOf mroundFrom mouts nm mfromHour mtoHour ns mfrom mto msort misFault mdeep mcoded mlines nl nc nF np ntr nb mbestCost nso nsi nit nsh nsf nss nrc jr (nI jd) mnumber mwhose msize misParted fnrc (by omega)) si_X12_366 [0, 1] [] rfl rfl (by decide) rfl (by decide) (by decide) rfl rfl rfl rfl rfl (Nat.le_of_ble_eq_true rfl) ⟨Nat.le_of_ble_eq_true rfl, Nat.le_of_ble_eq_true rfl⟩ ⟨Nat.le_of_ble_eq_true rfl, Nat.le_of_ble_eq_true rfl⟩ dX12_body_296 (fun u6371 H locs hr6370 hP hD hS => ?_)
  obtain ⟨jr16372, gtrc6373⟩ := u6371
  try dsimp only at hr6370
  have hP : va_P G.1 vwCl [(h0, .inr (12, [.ref nw, .ref nk, .int mhasKept, .ref nt, .int mtaped, .ref nr, .int mrowMany, .int mroundOf, .int mroundFrom, .int mouts, .ref nm, .int mfromHour, .int mtoHour, .ref ns, .int mfrom, .int mto, .int msort, .int misFault, .int mdeep, .int mcoded, .int mlines, .ref nl, .ref nc, .ref nF, .ref np, .ref ntr, .ref nb, .int mbestCost, .ref nso, .ref nsi, .ref nit, .ref nsh, .ref nsf, .ref nss, .ref nrc, .int (nI jr16372), .int (nI jd), .int mnumber, .int mwhose, .int msize, .int misParted])), (nrc, .inl (G.2.1, 30, .inl gtrc6373))] H := hP
  have hD : va_D A [(h0, .inr (12, [.ref nw, .ref nk, .int mhasKept, .ref nt, .int mtaped, .ref nr, .int mrowMany, .int mroundOf, .int mroundFrom, .int mouts, .ref nm, .int mfromHour, .int mtoHour, .ref ns, .int mfrom, .int mto, .int msort, .int misFault, .int mdeep, .int mcoded, .int mlines, .ref nl, .ref nc, .ref nF, .ref np, .ref ntr, .ref nb, .int mbestCost, .ref nso, .ref nsi, .ref nit, .ref nsh, .ref nsf, .ref nss, .ref nrc, .int (nI jr16372), .int (nI jd), .int mnumber, .int mwhose, .int msize, .int misParted])), (nrc, .inl (G.2.1, 30, .inl gtrc6373))] := hD
  have w6374 := hr6370
  refine lv_aload_n hx hb dX12_body_299 rfl (lv_at hl 0 rfl) ?_
  refine lv_iconst (v := 0) hx hb dX12_body_300 (by decide) ?_
  refine lv_iconst (v := 2) hx hb dX12_body_301 (by decide) ?_
  refine lv_iload_n hx hb dX12_body_302 rfl (lv_at hl 3 rfl) ?_
  refine iV (wr := []) hC hK hl hP hD hS hA (m_from02 l G h0 xx nw nk mhasKept nt mtaped nr mrowMany mroundOf mroundFrom mouts nm mfromHour mtoHour ns mfrom mto msort misFault mdeep mcoded mlines nl nc nF np ntr nb mbestCost nso nsi nit nsh nsf nss nrc jr16372 jd mnumber mwhose msize misParted gtrc6373 (by omega) (by omega)) si_X12_357 [0, 1] [] rfl rfl (by decide) rfl (by decide) (by decide) rfl rfl rfl rfl rfl (Nat.le_of_ble_eq_true rfl) ⟨Nat.le_of_ble_eq_true rfl, Nat.le_of_ble_eq_true rfl⟩ ⟨Nat.le_of_ble_eq_true rfl, Nat.le_of_ble_eq_true rfl⟩ dX12_body_303 (fun r6375 u6376 H locs hr6375 hP hD hS => ?_)
  obtain ⟨jr16377, ip16378, gtrc6379⟩ := u6376
  try dsimp only at hr6375
  have hP : va_P G.1 vwCl [(h0, .inr (12, [.ref nw, .ref nk, .int mhasKept, .ref nt, .int mtaped, .ref nr, .int mrowMany, .int mroundOf, .int mroundFrom, .int mouts, .ref nm, .int mfromHour, .int mtoHour, .ref ns, .int mfrom, .int mto, .int msort, .int misFault, .int mdeep, .int mcoded, .int mlines, .ref nl, .ref nc, .ref nF, .ref np, .ref ntr, .ref nb, .int mbestCost, .ref nso, .ref nsi, .ref nit, .ref nsh, .ref nsf, .ref nss, .ref nrc, .int (nI jr16377), .int (nI jd), .int mnumber, .int mwhose, .int msize, .int ip16378])), (nrc, .inl (G.2.1, 30, .inl gtrc6379))] H := hP
  have hD : va_D A [(h0, .inr (12, [.ref nw, .ref nk, .int mhasKept, .ref nt, .int mtaped, .ref nr, .int mrowMany, .int mroundOf, .int mroundFrom, .int mouts, .ref nm, .int mfromHour, .int mtoHour, .ref ns, .int mfrom, .int mto, .int msort, .int misFault, .int mdeep, .int mcoded, .int mlines, .ref nl, .ref nc, .ref nF, .ref np, .ref ntr, .ref nb, .int mbestCost, .ref nso, .ref nsi, .ref nit, .ref nsh, .ref nsf, .ref nss, .ref nrc, .int (nI jr16377), .int (nI jd), .int mnumber, .int mwhose, .int msize, .int ip16378])), (nrc, .inl (G.2.1, 30, .inl gtrc6379))] := hD
  obtain ⟨hr6375, w6380⟩ := hr6375
  refine lv_istore (lv' := [(4, .int r6375), (0, .ref h0), (1, .int 4), (2, .int 2), (3, .int xx)]) hx hb dX12_body_306 hl (by decide) rfl (fun ls hl => ?_)
  refine lv_iload hx hb dX12_body_308 (lv_at hl 0 rfl) ?_
  refine lv_aload_n hx hb dX12_body_310 rfl (lv_at hl 1 rfl) ?_
  refine lv_iconst (v := 1) hx hb dX12_body_311 (by decide) ?_
  refine lv_iconst (v := 1) hx hb dX12_body_312 (by decide) ?_
  refine iV (wr := []) hC hK hl hP hD hS hA (m_dealt1 l G h0 1 nw nk mhasKept nt mtaped nr mrowMany mroundOf mroundFrom mouts nm mfromHour mtoHour ns mfrom mto msort misFault mdeep mcoded mlines nl nc nF np ntr nb mbestCost nso nsi nit nsh nsf nss nrc jr16377 jd mnumber mwhose msize ip16378 gtrc6379 (by omega) (by omega)) si_X12_372 [0, 1] [] rfl rfl (by decide) rfl (by decide) (by decide) rfl rfl rfl rfl rfl (Nat.le_of_ble_eq_true rfl) ⟨Nat.le_of_ble_eq_true rfl, Nat.le_of_ble_eq_true rfl⟩ ⟨Nat.le_of_ble_eq_true rfl, Nat.le_of_ble_eq_true rfl⟩ dX12_body_313 (fun r6381 u6382 H locs hr6381 hP hD hS => ?_)
  obtain ⟨jr16383, ip16384, gtrc6385⟩ := u6382
  try dsimp only at hr6381
  have hP : va_P G.1 vwCl [(h0, .inr (12, [.ref nw, .ref nk, .int mhasKept, .ref nt, .int mtaped, .ref nr, .int mrowMany, .int mroundOf, .int mroundFrom, .int mouts, .ref nm, .int mfromHour, .int mtoHour, .ref ns, .int mfrom, .int mto, .int msort, .int misFault, .int mdeep, .int mcoded, .int mlines, .ref nl, .ref nc, .ref nF, .ref np, .ref ntr, .ref nb, .int mbestCost, .ref nso, .ref nsi, .ref nit, .ref nsh, .ref nsf, .ref nss, .ref nrc, .int (nI jr16383), .int (nI jd), .int mnumber, .int mwhose, .int msize, .int ip16384])), (nrc, .inl (G.2.1, 30, .inl gtrc6385))] H := hP
  have hD : va_D A [(h0, .inr (12, [.ref nw, .ref nk, .int mhasKept, .ref nt, .int mtaped, .ref nr, .int mrowMany, .int mroundOf, .int mroundFrom, .int mouts, .ref nm, .int mfromHour, .int mtoHour, .ref ns, .int mfrom, .int mto, .int msort, .int misFault, .int mdeep, .int mcoded, .int mlines, .ref nl, .ref nc, .ref nF, .ref np, .ref ntr, .ref nb, .int mbestCost, .ref nso, .ref nsi, .ref nit, .ref nsh, .ref nsf, .ref nss, .ref nrc, .int (nI jr16383), .int (nI jd), .int mnumber, .int mwhose, .int msize, .int ip16384])), (nrc, .inl (G.2.1, 30, .inl gtrc6385))] := hD
  obtain ⟨hr6381, w6386⟩ := hr6381
  refine lv_iadd hx hb dX12_body_316 ?_
  exact RI (v := r6375 + r6381) hC hP hD hS [0, 1] (jr16383, ip16384, gtrc6385) rfl rfl (by decide) (⟨trivial, by omega⟩) rfl dX12_body_317
set_option maxHeartbeats 4000000 in
set_option maxRecDepth 100000 in
theorem m_from42 (l : Launch) (G : GG) (h0 : Nat) (xx : Int32) (nw : Nat) (nk : Nat) (mhasKept : Int32) (nt : Nat) (mtaped : Int32) (nr : Nat) (mrowMany : Int32) (mroundOf : Int32) (mroundFrom : Int32) (mouts : Int32) (nm : Nat) (mfromHour : Int32) (mtoHour : Int32) (ns : Nat) (mfrom : Int32) (mto : Int32) (msort : Int32) (misFault : Int32) (mdeep : Int32) (mcoded : Int32) (mlines : Int32) (nl : Nat) (nc : Nat) (nF : Nat) (np : Nat) (ntr : Nat) (nb : Nat) (mbestCost : Int32) (nso : Nat) (nsi : Nat) (nit : Nat) (nsh : Nat) (nsf : Nat) (nss : Nat) (nrc : Nat) (jr : Nat) (jd : Nat) (mnumber : Int32) (mwhose : Int32) (msize : Int32) (misParted : Int32) (fnrc : Nat → Int32) (hjr : jr ≤ 30) (hjd : jd < 7) : MI l G yX12_bodyFrom cX12_bodyFrom 5 (some .int) 32 0 0 [.ref h0, .int 4, .int 2, .int xx] [(h0, .inr (12, [.ref nw, .ref nk, .int mhasKept, .ref nt, .int mtaped, .ref nr, .int mrowMany, .int mroundOf, .int mroundFrom, .int mouts, .ref nm, .int mfromHour, .int mtoHour, .ref ns, .int mfrom, .int mto, .int msort, .int misFault, .int mdeep, .int mcoded, .int mlines, .ref nl, .ref nc, .ref nF, .ref np, .ref ntr, .ref nb, .int mbestCost, .ref nso, .ref nsi, .ref nit, .ref nsh, .ref nsf, .ref nss, .ref nrc, .int (nI jr), .int (nI jd), .int mnumber, .int mwhose, .int msize, .int misParted])), (nrc, .inl (G.2.1, 30, .inl fnrc))] (fun (r : Int32) (u : Nat × Int32 × (Nat → Int32)) => (True) ∧ (u.1 ≤ 30)) (fun u : Nat × Int32 × (Nat → Int32) => [(h0, .inr (12, [.ref nw, .ref nk, .int mhasKept, .ref nt, .int mtaped, .ref nr, .int mrowMany, .int mroundOf, .int mroundFrom, .int mouts, .ref nm, .int mfromHour, .int mtoHour, .ref ns, .int mfrom, .int mto, .int msort, .int misFault, .int mdeep, .int mcoded, .int mlines, .ref nl, .ref nc, .ref nF, .ref np, .ref ntr, .ref nb, .int mbestCost, .ref nso, .ref nsi, .ref nit, .ref nsh, .ref nsf, .ref nss, .ref nrc, .int (nI u.1), .int (nI jd), .int mnumber, .int mwhose, .int msize, .int u.2.1])), (nrc, .inl (G.2.1, 30, .inl u.2.2))]) := by
  refine MI.start (by decide +kernel) (Nat.le_of_ble_eq_true rfl) ?_
  intro p e s m below meth c A ls hC hK hP hD hS hA hl
  have hl : lv_has ls 5 [(0, .ref h0), (1, .int 4), (2, .int 2), (3, .int xx)] := hl
  obtain ⟨hx, hb, hr, hml, hB, hown, hlocks, hnm⟩ := id hC
  refine lv_iload_n hx hb dX12_bodyFrom_0 rfl (lv_at hl 1 rfl) ?_
  refine lv_istore (lv' := [(4, .int 4), (0, .ref h0), (1, .int 4), (2, .int 2), (3, .int xx)]) hx hb dX12_bodyFrom_1 hl (by decide) rfl (fun ls hl => ?_)
  refine lv_iload hx hb dX12_bodyFrom_3 (lv_at hl 0 rfl) ?_
  refine lv_iload_n hx hb dX12_bodyFrom_5 rfl (lv_at hl 3 rfl) ?_
  refine pS hC hK hl (m_hasOwn42 l G) si_X12_360 rfl rfl (Nat.le_of_ble_eq_true rfl) ⟨Nat.le_of_ble_eq_true rfl, Nat.le_of_ble_eq_true rfl⟩ ⟨by first | exact Nat.le_of_ble_eq_true rfl | exact Nat.zero_le _, by first | exact Nat.le_of_ble_eq_true rfl | exact Nat.zero_le _⟩ dX12_bodyFrom_6 (fun r6387 hr6387 => ?_)
  obtain rfl := hr6387
  refine lv_if_ne (tgt := 22) hx hb dX12_bodyFrom_9 (by decide) (fun _ => ?_) (fun c9 => absurd c9 (by decide))
  refine lv_aload_n hx hb dX12_bodyFrom_22 rfl (lv_at hl 1 rfl) ?_
  refine lv_iload hx hb dX12_bodyFrom_23 (lv_at hl 0 rfl) ?_
  refine lv_iload_n hx hb dX12_bodyFrom_25 rfl (lv_at hl 3 rfl) ?_
  refine lv_iload_n hx hb dX12_bodyFrom_26 rfl (lv_at hl 4 rfl) ?_
  refine iV (wr := []) hC hK hl hP hD hS hA (m_body42 l G h0 xx nw nk mhasKept nt mtaped nr mrowMany mroundOf mroundFrom mouts nm mfromHour mtoHour ns mfrom mto msort misFault mdeep mcoded mlines nl nc nF np ntr nb mbestCost nso nsi nit nsh nsf nss nrc jr jd mnumber mwhose msize misParted fnrc (by omega) (by omega)) si_X12_363 [0, 1] [] rfl rfl (by decide) rfl (by decide) (by decide) rfl rfl rfl rfl rfl (Nat.le_of_ble_eq_true rfl) ⟨Nat.le_of_ble_eq_true rfl, Nat.le_of_ble_eq_true rfl⟩ ⟨Nat.le_of_ble_eq_true rfl, Nat.le_of_ble_eq_true rfl⟩ dX12_bodyFrom_27 (fun r6389 u6390 H locs hr6389 hP hD hS => ?_)
  obtain ⟨jr16391, ip16392, gtrc6393⟩ := u6390
  try dsimp only at hr6389
  have hP : va_P G.1 vwCl [(h0, .inr (12, [.ref nw, .ref nk, .int mhasKept, .ref nt, .int mtaped, .ref nr, .int mrowMany, .int mroundOf, .int mroundFrom, .int mouts, .ref nm, .int mfromHour, .int mtoHour, .ref ns, .int mfrom, .int mto, .int msort, .int misFault, .int mdeep, .int mcoded, .int mlines, .ref nl, .ref nc, .ref nF, .ref np, .ref ntr, .ref nb, .int mbestCost, .ref nso, .ref nsi, .ref nit, .ref nsh, .ref nsf, .ref nss, .ref nrc, .int (nI jr16391), .int (nI jd), .int mnumber, .int mwhose, .int msize, .int ip16392])), (nrc, .inl (G.2.1, 30, .inl gtrc6393))] H := hP
  have hD : va_D A [(h0, .inr (12, [.ref nw, .ref nk, .int mhasKept, .ref nt, .int mtaped, .ref nr, .int mrowMany, .int mroundOf, .int mroundFrom, .int mouts, .ref nm, .int mfromHour, .int mtoHour, .ref ns, .int mfrom, .int mto, .int msort, .int misFault, .int mdeep, .int mcoded, .int mlines, .ref nl, .ref nc, .ref nF, .ref np, .ref ntr, .ref nb, .int mbestCost, .ref nso, .ref nsi, .ref nit, .ref nsh, .ref nsf, .ref nss, .ref nrc, .int (nI jr16391), .int (nI jd), .int mnumber, .int mwhose, .int msize, .int ip16392])), (nrc, .inl (G.2.1, 30, .inl gtrc6393))] := hD
  obtain ⟨hr6389, w6394⟩ := hr6389
  exact RI (v := r6389) hC hP hD hS [0, 1] (jr16391, ip16392, gtrc6393) rfl rfl (by decide) (⟨trivial, by omega⟩) rfl dX12_bodyFrom_30
set_option maxHeartbeats 4000000 in
set_option maxRecDepth 100000 in
theorem m_body52 (l : Launch) (G : GG) (h0 : Nat) (xx : Int32) (nw : Nat) (nk : Nat) (mhasKept : Int32) (nt : Nat) (mtaped : Int32) (nr : Nat) (mrowMany : Int32) (mroundOf : Int32) (mroundFrom : Int32) (mouts : Int32) (nm : Nat) (mfromHour : Int32) (mtoHour : Int32) (ns : Nat) (mfrom : Int32) (mto : Int32) (msort : Int32) (misFault : Int32) (mdeep : Int32) (mcoded : Int32) (mlines : Int32) (nl : Nat) (nc : Nat) (nF : Nat) (np : Nat) (ntr : Nat) (nb : Nat) (mbestCost : Int32) (nso : Nat) (nsi : Nat) (nit : Nat) (nsh : Nat) (nsf : Nat) (nss : Nat) (nrc : Nat) (jr : Nat) (jd : Nat) (mnumber : Int32) (mwhose : Int32) (msize : Int32) (misParted : Int32) (fnrc : Nat → Int32) (hjr : jr ≤ 30) (hjd : jd < 7) : MI l G yX12_body cX12_body 6 (some .int) 33 0 0 [.ref h0, .int 5, .int 2, .int xx] [(h0, .inr (12, [.ref nw, .ref nk, .int mhasKept, .ref nt, .int mtaped, .ref nr, .int mrowMany, .int mroundOf, .int mroundFrom, .int mouts, .ref nm, .int mfromHour, .int mtoHour, .ref ns, .int mfrom, .int mto, .int msort, .int misFault, .int mdeep, .int mcoded, .int mlines, .ref nl, .ref nc, .ref nF, .ref np, .ref ntr, .ref nb, .int mbestCost, .ref nso, .ref nsi, .ref nit, .ref nsh, .ref nsf, .ref nss, .ref nrc, .int (nI jr), .int (nI jd), .int mnumber, .int mwhose, .int msize, .int misParted])), (nrc, .inl (G.2.1, 30, .inl fnrc))] (fun (r : Int32) (u : Nat × Int32 × (Nat → Int32)) => (True) ∧ (u.1 ≤ 30)) (fun u : Nat × Int32 × (Nat → Int32) => [(h0, .inr (12, [.ref nw, .ref nk, .int mhasKept, .ref nt, .int mtaped, .ref nr, .int mrowMany, .int mroundOf, .int mroundFrom, .int mouts, .ref nm, .int mfromHour, .int mtoHour, .ref ns, .int mfrom, .int mto, .int msort, .int misFault, .int mdeep, .int mcoded, .int mlines, .ref nl, .ref nc, .ref nF, .ref np, .ref ntr, .ref nb, .int mbestCost, .ref nso, .ref nsi, .ref nit, .ref nsh, .ref nsf, .ref nss, .ref nrc, .int (nI u.1), .int (nI jd), .int mnumber, .int mwhose, .int msize, .int u.2.1])), (nrc, .inl (G.2.1, 30, .inl u.2.2))]) := by
  refine MI.start (by decide +kernel) (Nat.le_of_ble_eq_true rfl) ?_
  intro p e s m below meth c A ls hC hK hP hD hS hA hl
  have hl : lv_has ls 6 [(0, .ref h0), (1, .int 5), (2, .int 2), (3, .int xx)] := hl
  obtain ⟨hx, hb, hr, hml, hB, hown, hlocks, hnm⟩ := id hC
  refine lv_iconst (v := 4) hx hb dX12_body_0 (by decide) ?_
  refine lv_iload_n hx hb dX12_body_1 rfl (lv_at hl 1 rfl) ?_
  refine lv_imul hx hb dX12_body_2 ?_
  refine eqi (x1 := 20) (by decide) ?_
  refine lv_iload_n hx hb dX12_body_3 rfl (lv_at hl 2 rfl) ?_
  refine lv_iadd hx hb dX12_body_4 ?_
  refine eqi (x1 := 22) (by decide) ?_
  refine lv_tableIn (tgt := 318) hx hb dX12_body_5 (by decide) (by decide) rfl (by decide) ?_
  refine lv_aload_n hx hb dX12_body_318 rfl (lv_at hl 0 rfl) ?_
  refine lv_bipush (v := 60) hx hb dX12_body_319 (by decide) ?_
  refine vV (wr := []) hC hK hl hP hD hS hA (m_began l G h0 60 nw nk mhasKept nt mtaped nr mrowMany mroundOf mroundFrom mouts nm mfromHour mtoHour ns mfrom mto msort misFault mdeep mcoded mlines nl nc nF np ntr nb mbestCost nso nsi nit nsh nsf nss nrc jr (nI jd) mnumber mwhose msize misParted fnrc (by omega)) si_X12_366 [0, 1] [] rfl rfl (by decide) rfl (by decide) (by decide) rfl rfl rfl rfl rfl (Nat.le_of_ble_eq_true rfl) ⟨Nat.le_of_ble_eq_true rfl, Nat.le_of_ble_eq_true rfl⟩ ⟨Nat.le_of_ble_eq_true rfl, Nat.le_of_ble_eq_true rfl⟩ dX12_body_321 (fun u6396 H locs hr6395 hP hD hS => ?_)
  obtain ⟨jr16397, gtrc6398⟩ := u6396
  try dsimp only at hr6395
  have hP : va_P G.1 vwCl [(h0, .inr (12, [.ref nw, .ref nk, .int mhasKept, .ref nt, .int mtaped, .ref nr, .int mrowMany, .int mroundOf, .int mroundFrom, .int mouts, .ref nm, .int mfromHour, .int mtoHour, .ref ns, .int mfrom, .int mto, .int msort, .int misFault, .int mdeep, .int mcoded, .int mlines, .ref nl, .ref nc, .ref nF, .ref np, .ref ntr, .ref nb, .int mbestCost, .ref nso, .ref nsi, .ref nit, .ref nsh, .ref nsf, .ref nss, .ref nrc, .int (nI jr16397), .int (nI jd), .int mnumber, .int mwhose, .int msize, .int misParted])), (nrc, .inl (G.2.1, 30, .inl gtrc6398))] H := hP
  have hD : va_D A [(h0, .inr (12, [.ref nw, .ref nk, .int mhasKept, .ref nt, .int mtaped, .ref nr, .int mrowMany, .int mroundOf, .int mroundFrom, .int mouts, .ref nm, .int mfromHour, .int mtoHour, .ref ns, .int mfrom, .int mto, .int msort, .int misFault, .int mdeep, .int mcoded, .int mlines, .ref nl, .ref nc, .ref nF, .ref np, .ref ntr, .ref nb, .int mbestCost, .ref nso, .ref nsi, .ref nit, .ref nsh, .ref nsf, .ref nss, .ref nrc, .int (nI jr16397), .int (nI jd), .int mnumber, .int mwhose, .int msize, .int misParted])), (nrc, .inl (G.2.1, 30, .inl gtrc6398))] := hD
  have w6399 := hr6395
  refine lv_aload_n hx hb dX12_body_324 rfl (lv_at hl 0 rfl) ?_
  refine lv_iconst (v := 4) hx hb dX12_body_325 (by decide) ?_
  refine lv_iconst (v := 2) hx hb dX12_body_326 (by decide) ?_
  refine lv_iload_n hx hb dX12_body_327 rfl (lv_at hl 3 rfl) ?_
  refine iV (wr := []) hC hK hl hP hD hS hA (m_from42 l G h0 xx nw nk mhasKept nt mtaped nr mrowMany mroundOf mroundFrom mouts nm mfromHour mtoHour ns mfrom mto msort misFault mdeep mcoded mlines nl nc nF np ntr nb mbestCost nso nsi nit nsh nsf nss nrc jr16397 jd mnumber mwhose msize misParted gtrc6398 (by omega) (by omega)) si_X12_357 [0, 1] [] rfl rfl (by decide) rfl (by decide) (by decide) rfl rfl rfl rfl rfl (Nat.le_of_ble_eq_true rfl) ⟨Nat.le_of_ble_eq_true rfl, Nat.le_of_ble_eq_true rfl⟩ ⟨Nat.le_of_ble_eq_true rfl, Nat.le_of_ble_eq_true rfl⟩ dX12_body_328 (fun r6400 u6401 H locs hr6400 hP hD hS => ?_)
  obtain ⟨jr16402, ip16403, gtrc6404⟩ := u6401
  try dsimp only at hr6400
  have hP : va_P G.1 vwCl [(h0, .inr (12, [.ref nw, .ref nk, .int mhasKept, .ref nt, .int mtaped, .ref nr, .int mrowMany, .int mroundOf, .int mroundFrom, .int mouts, .ref nm, .int mfromHour, .int mtoHour, .ref ns, .int mfrom, .int mto, .int msort, .int misFault, .int mdeep, .int mcoded, .int mlines, .ref nl, .ref nc, .ref nF, .ref np, .ref ntr, .ref nb, .int mbestCost, .ref nso, .ref nsi, .ref nit, .ref nsh, .ref nsf, .ref nss, .ref nrc, .int (nI jr16402), .int (nI jd), .int mnumber, .int mwhose, .int msize, .int ip16403])), (nrc, .inl (G.2.1, 30, .inl gtrc6404))] H := hP
  have hD : va_D A [(h0, .inr (12, [.ref nw, .ref nk, .int mhasKept, .ref nt, .int mtaped, .ref nr, .int mrowMany, .int mroundOf, .int mroundFrom, .int mouts, .ref nm, .int mfromHour, .int mtoHour, .ref ns, .int mfrom, .int mto, .int msort, .int misFault, .int mdeep, .int mcoded, .int mlines, .ref nl, .ref nc, .ref nF, .ref np, .ref ntr, .ref nb, .int mbestCost, .ref nso, .ref nsi, .ref nit, .ref nsh, .ref nsf, .ref nss, .ref nrc, .int (nI jr16402), .int (nI jd), .int mnumber, .int mwhose, .int msize, .int ip16403])), (nrc, .inl (G.2.1, 30, .inl gtrc6404))] := hD
  obtain ⟨hr6400, w6405⟩ := hr6400
  refine lv_iconst (v := 2) hx hb dX12_body_331 (by decide) ?_
  refine lv_imul hx hb dX12_body_332 ?_
  exact RI (v := r6400 * 2) hC hP hD hS [0, 1] (jr16402, ip16403, gtrc6404) rfl rfl (by decide) (⟨trivial, by omega⟩) rfl dX12_body_333
set_option maxHeartbeats 4000000 in
set_option maxRecDepth 100000 in
theorem m_from52 (l : Launch) (G : GG) (h0 : Nat) (xx : Int32) (nw : Nat) (nk : Nat) (mhasKept : Int32) (nt : Nat) (mtaped : Int32) (nr : Nat) (mrowMany : Int32) (mroundOf : Int32) (mroundFrom : Int32) (mouts : Int32) (nm : Nat) (mfromHour : Int32) (mtoHour : Int32) (ns : Nat) (mfrom : Int32) (mto : Int32) (msort : Int32) (misFault : Int32) (mdeep : Int32) (mcoded : Int32) (mlines : Int32) (nl : Nat) (nc : Nat) (nF : Nat) (np : Nat) (ntr : Nat) (nb : Nat) (mbestCost : Int32) (nso : Nat) (nsi : Nat) (nit : Nat) (nsh : Nat) (nsf : Nat) (nss : Nat) (nrc : Nat) (jr : Nat) (jd : Nat) (mnumber : Int32) (mwhose : Int32) (msize : Int32) (misParted : Int32) (fnrc : Nat → Int32) (hjr : jr ≤ 30) (hjd : jd < 7) : MI l G yX12_bodyFrom cX12_bodyFrom 5 (some .int) 34 0 0 [.ref h0, .int 5, .int 2, .int xx] [(h0, .inr (12, [.ref nw, .ref nk, .int mhasKept, .ref nt, .int mtaped, .ref nr, .int mrowMany, .int mroundOf, .int mroundFrom, .int mouts, .ref nm, .int mfromHour, .int mtoHour, .ref ns, .int mfrom, .int mto, .int msort, .int misFault, .int mdeep, .int mcoded, .int mlines, .ref nl, .ref nc, .ref nF, .ref np, .ref ntr, .ref nb, .int mbestCost, .ref nso, .ref nsi, .ref nit, .ref nsh, .ref nsf, .ref nss, .ref nrc, .int (nI jr), .int (nI jd), .int mnumber, .int mwhose, .int msize, .int misParted])), (nrc, .inl (G.2.1, 30, .inl fnrc))] (fun (r : Int32) (u : Nat × Int32 × (Nat → Int32)) => (True) ∧ (u.1 ≤ 30)) (fun u : Nat × Int32 × (Nat → Int32) => [(h0, .inr (12, [.ref nw, .ref nk, .int mhasKept, .ref nt, .int mtaped, .ref nr, .int mrowMany, .int mroundOf, .int mroundFrom, .int mouts, .ref nm, .int mfromHour, .int mtoHour, .ref ns, .int mfrom, .int mto, .int msort, .int misFault, .int mdeep, .int mcoded, .int mlines, .ref nl, .ref nc, .ref nF, .ref np, .ref ntr, .ref nb, .int mbestCost, .ref nso, .ref nsi, .ref nit, .ref nsh, .ref nsf, .ref nss, .ref nrc, .int (nI u.1), .int (nI jd), .int mnumber, .int mwhose, .int msize, .int u.2.1])), (nrc, .inl (G.2.1, 30, .inl u.2.2))]) := by
  refine MI.start (by decide +kernel) (Nat.le_of_ble_eq_true rfl) ?_
  intro p e s m below meth c A ls hC hK hP hD hS hA hl
  have hl : lv_has ls 5 [(0, .ref h0), (1, .int 5), (2, .int 2), (3, .int xx)] := hl
  obtain ⟨hx, hb, hr, hml, hB, hown, hlocks, hnm⟩ := id hC
  refine lv_iload_n hx hb dX12_bodyFrom_0 rfl (lv_at hl 1 rfl) ?_
  refine lv_istore (lv' := [(4, .int 5), (0, .ref h0), (1, .int 5), (2, .int 2), (3, .int xx)]) hx hb dX12_bodyFrom_1 hl (by decide) rfl (fun ls hl => ?_)
  refine lv_iload hx hb dX12_bodyFrom_3 (lv_at hl 0 rfl) ?_
  refine lv_iload_n hx hb dX12_bodyFrom_5 rfl (lv_at hl 3 rfl) ?_
  refine pS hC hK hl (m_hasOwn52 l G) si_X12_360 rfl rfl (Nat.le_of_ble_eq_true rfl) ⟨Nat.le_of_ble_eq_true rfl, Nat.le_of_ble_eq_true rfl⟩ ⟨by first | exact Nat.le_of_ble_eq_true rfl | exact Nat.zero_le _, by first | exact Nat.le_of_ble_eq_true rfl | exact Nat.zero_le _⟩ dX12_bodyFrom_6 (fun r6406 hr6406 => ?_)
  obtain rfl := hr6406
  refine lv_if_ne (tgt := 22) hx hb dX12_bodyFrom_9 (by decide) (fun _ => ?_) (fun c9 => absurd c9 (by decide))
  refine lv_aload_n hx hb dX12_bodyFrom_22 rfl (lv_at hl 1 rfl) ?_
  refine lv_iload hx hb dX12_bodyFrom_23 (lv_at hl 0 rfl) ?_
  refine lv_iload_n hx hb dX12_bodyFrom_25 rfl (lv_at hl 3 rfl) ?_
  refine lv_iload_n hx hb dX12_bodyFrom_26 rfl (lv_at hl 4 rfl) ?_
  refine iV (wr := []) hC hK hl hP hD hS hA (m_body52 l G h0 xx nw nk mhasKept nt mtaped nr mrowMany mroundOf mroundFrom mouts nm mfromHour mtoHour ns mfrom mto msort misFault mdeep mcoded mlines nl nc nF np ntr nb mbestCost nso nsi nit nsh nsf nss nrc jr jd mnumber mwhose msize misParted fnrc (by omega) (by omega)) si_X12_363 [0, 1] [] rfl rfl (by decide) rfl (by decide) (by decide) rfl rfl rfl rfl rfl (Nat.le_of_ble_eq_true rfl) ⟨Nat.le_of_ble_eq_true rfl, Nat.le_of_ble_eq_true rfl⟩ ⟨Nat.le_of_ble_eq_true rfl, Nat.le_of_ble_eq_true rfl⟩ dX12_bodyFrom_27 (fun r6408 u6409 H locs hr6408 hP hD hS => ?_)
  obtain ⟨jr16410, ip16411, gtrc6412⟩ := u6409
  try dsimp only at hr6408
  have hP : va_P G.1 vwCl [(h0, .inr (12, [.ref nw, .ref nk, .int mhasKept, .ref nt, .int mtaped, .ref nr, .int mrowMany, .int mroundOf, .int mroundFrom, .int mouts, .ref nm, .int mfromHour, .int mtoHour, .ref ns, .int mfrom, .int mto, .int msort, .int misFault, .int mdeep, .int mcoded, .int mlines, .ref nl, .ref nc, .ref nF, .ref np, .ref ntr, .ref nb, .int mbestCost, .ref nso, .ref nsi, .ref nit, .ref nsh, .ref nsf, .ref nss, .ref nrc, .int (nI jr16410), .int (nI jd), .int mnumber, .int mwhose, .int msize, .int ip16411])), (nrc, .inl (G.2.1, 30, .inl gtrc6412))] H := hP
  have hD : va_D A [(h0, .inr (12, [.ref nw, .ref nk, .int mhasKept, .ref nt, .int mtaped, .ref nr, .int mrowMany, .int mroundOf, .int mroundFrom, .int mouts, .ref nm, .int mfromHour, .int mtoHour, .ref ns, .int mfrom, .int mto, .int msort, .int misFault, .int mdeep, .int mcoded, .int mlines, .ref nl, .ref nc, .ref nF, .ref np, .ref ntr, .ref nb, .int mbestCost, .ref nso, .ref nsi, .ref nit, .ref nsh, .ref nsf, .ref nss, .ref nrc, .int (nI jr16410), .int (nI jd), .int mnumber, .int mwhose, .int msize, .int ip16411])), (nrc, .inl (G.2.1, 30, .inl gtrc6412))] := hD
  obtain ⟨hr6408, w6413⟩ := hr6408
  exact RI (v := r6408) hC hP hD hS [0, 1] (jr16410, ip16411, gtrc6412) rfl rfl (by decide) (⟨trivial, by omega⟩) rfl dX12_bodyFrom_30
set_option maxHeartbeats 4000000 in
set_option maxRecDepth 100000 in
theorem m_from12 (l : Launch) (G : GG) (h0 : Nat) (xx : Int32) (nw : Nat) (nk : Nat) (mhasKept : Int32) (nt : Nat) (mtaped : Int32) (nr : Nat) (mrowMany : Int32) (mroundOf : Int32) (mroundFrom : Int32) (mouts : Int32) (nm : Nat) (mfromHour : Int32) (mtoHour : Int32) (ns : Nat) (mfrom : Int32) (mto : Int32) (msort : Int32) (misFault : Int32) (mdeep : Int32) (mcoded : Int32) (mlines : Int32) (nl : Nat) (nc : Nat) (nF : Nat) (np : Nat) (ntr : Nat) (nb : Nat) (mbestCost : Int32) (nso : Nat) (nsi : Nat) (nit : Nat) (nsh : Nat) (nsf : Nat) (nss : Nat) (nrc : Nat) (jr : Nat) (jd : Nat) (mnumber : Int32) (mwhose : Int32) (msize : Int32) (misParted : Int32) (fnrc : Nat → Int32) (hjr : jr ≤ 30) (hjd : jd < 7) : MI l G yX12_bodyFrom cX12_bodyFrom 5 (some .int) 36 0 0 [.ref h0, .int 1, .int 2, .int xx] [(h0, .inr (12, [.ref nw, .ref nk, .int mhasKept, .ref nt, .int mtaped, .ref nr, .int mrowMany, .int mroundOf, .int mroundFrom, .int mouts, .ref nm, .int mfromHour, .int mtoHour, .ref ns, .int mfrom, .int mto, .int msort, .int misFault, .int mdeep, .int mcoded, .int mlines, .ref nl, .ref nc, .ref nF, .ref np, .ref ntr, .ref nb, .int mbestCost, .ref nso, .ref nsi, .ref nit, .ref nsh, .ref nsf, .ref nss, .ref nrc, .int (nI jr), .int (nI jd), .int mnumber, .int mwhose, .int msize, .int misParted])), (nrc, .inl (G.2.1, 30, .inl fnrc))] (fun (r : Int32) (u : Nat × Int32 × (Nat → Int32)) => (True) ∧ (u.1 ≤ 30)) (fun u : Nat × Int32 × (Nat → Int32) => [(h0, .inr (12, [.ref nw, .ref nk, .int mhasKept, .ref nt, .int mtaped, .ref nr, .int mrowMany, .int mroundOf, .int mroundFrom, .int mouts, .ref nm, .int mfromHour, .int mtoHour, .ref ns, .int mfrom, .int mto, .int msort, .int misFault, .int mdeep, .int mcoded, .int mlines, .ref nl, .ref nc, .ref nF, .ref np, .ref ntr, .ref nb, .int mbestCost, .ref nso, .ref nsi, .ref nit, .ref nsh, .ref nsf, .ref nss, .ref nrc, .int (nI u.1), .int (nI jd), .int mnumber, .int mwhose, .int msize, .int u.2.1])), (nrc, .inl (G.2.1, 30, .inl u.2.2))]) := by
  refine MI.start (by decide +kernel) (Nat.le_of_ble_eq_true rfl) ?_
  intro p e s m below meth c A ls hC hK hP hD hS hA hl
  have hl : lv_has ls 5 [(0, .ref h0), (1, .int 1), (2, .int 2), (3, .int xx)] := hl
  obtain ⟨hx, hb, hr, hml, hB, hown, hlocks, hnm⟩ := id hC
  refine lv_iload_n hx hb dX12_bodyFrom_0 rfl (lv_at hl 1 rfl) ?_
  refine lv_istore (lv' := [(4, .int 1), (0, .ref h0), (1, .int 1), (2, .int 2), (3, .int xx)]) hx hb dX12_bodyFrom_1 hl (by decide) rfl (fun ls hl => ?_)
  refine lv_iload hx hb dX12_bodyFrom_3 (lv_at hl 0 rfl) ?_
  refine lv_iload_n hx hb dX12_bodyFrom_5 rfl (lv_at hl 3 rfl) ?_
  refine pS hC hK hl (m_hasOwn12 l G) si_X12_360 rfl rfl (Nat.le_of_ble_eq_true rfl) ⟨Nat.le_of_ble_eq_true rfl, Nat.le_of_ble_eq_true rfl⟩ ⟨by first | exact Nat.le_of_ble_eq_true rfl | exact Nat.zero_le _, by first | exact Nat.le_of_ble_eq_true rfl | exact Nat.zero_le _⟩ dX12_bodyFrom_6 (fun r6414 hr6414 => ?_)
  obtain rfl := hr6414
  refine lv_if_ne (tgt := 22) hx hb dX12_bodyFrom_9 (by decide) (fun c9 => absurd (by decide) c9) (fun _ => ?_)
  refine lv_iload hx hb dX12_bodyFrom_12 (lv_at hl 0 rfl) ?_
  refine pS hC hK hl (m_above1 l G) si_X12_348 rfl rfl (Nat.le_of_ble_eq_true rfl) ⟨Nat.le_of_ble_eq_true rfl, Nat.le_of_ble_eq_true rfl⟩ ⟨by first | exact Nat.le_of_ble_eq_true rfl | exact Nat.zero_le _, by first | exact Nat.le_of_ble_eq_true rfl | exact Nat.zero_le _⟩ dX12_bodyFrom_14 (fun r6416 hr6416 => ?_)
  obtain rfl := hr6416
  refine lv_istore (lv' := [(4, .int 0), (0, .ref h0), (1, .int 1), (2, .int 2), (3, .int xx)]) hx hb dX12_bodyFrom_17 hl (by decide) rfl (fun ls hl => ?_)
  refine lv_goto (tgt := 3) hx hb dX12_bodyFrom_19 (by decide) ?_
  refine lv_iload hx hb dX12_bodyFrom_3 (lv_at hl 0 rfl) ?_
  refine lv_iload_n hx hb dX12_bodyFrom_5 rfl (lv_at hl 3 rfl) ?_
  refine pS hC hK hl (m_hasOwn02 l G) si_X12_360 rfl rfl (Nat.le_of_ble_eq_true rfl) ⟨Nat.le_of_ble_eq_true rfl, Nat.le_of_ble_eq_true rfl⟩ ⟨by first | exact Nat.le_of_ble_eq_true rfl | exact Nat.zero_le _, by first | exact Nat.le_of_ble_eq_true rfl | exact Nat.zero_le _⟩ dX12_bodyFrom_6 (fun r6418 hr6418 => ?_)
  obtain rfl := hr6418
  refine lv_if_ne (tgt := 22) hx hb dX12_bodyFrom_9 (by decide) (fun _ => ?_) (fun c9 => absurd c9 (by decide))
  refine lv_aload_n hx hb dX12_bodyFrom_22 rfl (lv_at hl 1 rfl) ?_
  refine lv_iload hx hb dX12_bodyFrom_23 (lv_at hl 0 rfl) ?_
  refine lv_iload_n hx hb dX12_bodyFrom_25 rfl (lv_at hl 3 rfl) ?_
  refine lv_iload_n hx hb dX12_bodyFrom_26 rfl (lv_at hl 4 rfl) ?_
  refine iV (wr := []) hC hK hl hP hD hS hA (m_body02 l G h0 xx nw nk mhasKept nt mtaped nr mrowMany mroundOf mroundFrom mouts nm mfromHour mtoHour ns mfrom mto msort misFault mdeep mcoded mlines nl nc nF np ntr nb mbestCost nso nsi nit nsh nsf nss nrc jr jd mnumber mwhose msize misParted fnrc (by omega) (by omega)) si_X12_363 [0, 1] [] rfl rfl (by decide) rfl (by decide) (by decide) rfl rfl rfl rfl rfl (Nat.le_of_ble_eq_true rfl) ⟨Nat.le_of_ble_eq_true rfl, Nat.le_of_ble_eq_true rfl⟩ ⟨Nat.le_of_ble_eq_true rfl, Nat.le_of_ble_eq_true rfl⟩ dX12_bodyFrom_27 (fun r6420 u6421 H locs hr6420 hP hD hS => ?_)
  obtain ⟨jr16422, ip16423, gtrc6424⟩ := u6421
  try dsimp only at hr6420
  have hP : va_P G.1 vwCl [(h0, .inr (12, [.ref nw, .ref nk, .int mhasKept, .ref nt, .int mtaped, .ref nr, .int mrowMany, .int mroundOf, .int mroundFrom, .int mouts, .ref nm, .int mfromHour, .int mtoHour, .ref ns, .int mfrom, .int mto, .int msort, .int misFault, .int mdeep, .int mcoded, .int mlines, .ref nl, .ref nc, .ref nF, .ref np, .ref ntr, .ref nb, .int mbestCost, .ref nso, .ref nsi, .ref nit, .ref nsh, .ref nsf, .ref nss, .ref nrc, .int (nI jr16422), .int (nI jd), .int mnumber, .int mwhose, .int msize, .int ip16423])), (nrc, .inl (G.2.1, 30, .inl gtrc6424))] H := hP
  have hD : va_D A [(h0, .inr (12, [.ref nw, .ref nk, .int mhasKept, .ref nt, .int mtaped, .ref nr, .int mrowMany, .int mroundOf, .int mroundFrom, .int mouts, .ref nm, .int mfromHour, .int mtoHour, .ref ns, .int mfrom, .int mto, .int msort, .int misFault, .int mdeep, .int mcoded, .int mlines, .ref nl, .ref nc, .ref nF, .ref np, .ref ntr, .ref nb, .int mbestCost, .ref nso, .ref nsi, .ref nit, .ref nsh, .ref nsf, .ref nss, .ref nrc, .int (nI jr16422), .int (nI jd), .int mnumber, .int mwhose, .int msize, .int ip16423])), (nrc, .inl (G.2.1, 30, .inl gtrc6424))] := hD
  obtain ⟨hr6420, w6425⟩ := hr6420
  exact RI (v := r6420) hC hP hD hS [0, 1] (jr16422, ip16423, gtrc6424) rfl rfl (by decide) (⟨trivial, by omega⟩) rfl dX12_bodyFrom_30
set_option maxHeartbeats 4000000 in
set_option maxRecDepth 100000 in
theorem m_from32 (l : Launch) (G : GG) (h0 : Nat) (xx : Int32) (nw : Nat) (nk : Nat) (mhasKept : Int32) (nt : Nat) (mtaped : Int32) (nr : Nat) (mrowMany : Int32) (mroundOf : Int32) (mroundFrom : Int32) (mouts : Int32) (nm : Nat) (mfromHour : Int32) (mtoHour : Int32) (ns : Nat) (mfrom : Int32) (mto : Int32) (msort : Int32) (misFault : Int32) (mdeep : Int32) (mcoded : Int32) (mlines : Int32) (nl : Nat) (nc : Nat) (nF : Nat) (np : Nat) (ntr : Nat) (nb : Nat) (mbestCost : Int32) (nso : Nat) (nsi : Nat) (nit : Nat) (nsh : Nat) (nsf : Nat) (nss : Nat) (nrc : Nat) (jr : Nat) (jd : Nat) (mnumber : Int32) (mwhose : Int32) (msize : Int32) (misParted : Int32) (fnrc : Nat → Int32) (hjr : jr ≤ 30) (hjd : jd < 7) : MI l G yX12_bodyFrom cX12_bodyFrom 5 (some .int) 36 0 0 [.ref h0, .int 3, .int 2, .int xx] [(h0, .inr (12, [.ref nw, .ref nk, .int mhasKept, .ref nt, .int mtaped, .ref nr, .int mrowMany, .int mroundOf, .int mroundFrom, .int mouts, .ref nm, .int mfromHour, .int mtoHour, .ref ns, .int mfrom, .int mto, .int msort, .int misFault, .int mdeep, .int mcoded, .int mlines, .ref nl, .ref nc, .ref nF, .ref np, .ref ntr, .ref nb, .int mbestCost, .ref nso, .ref nsi, .ref nit, .ref nsh, .ref nsf, .ref nss, .ref nrc, .int (nI jr), .int (nI jd), .int mnumber, .int mwhose, .int msize, .int misParted])), (nrc, .inl (G.2.1, 30, .inl fnrc))] (fun (r : Int32) (u : Nat × Int32 × (Nat → Int32)) => (True) ∧ (u.1 ≤ 30)) (fun u : Nat × Int32 × (Nat → Int32) => [(h0, .inr (12, [.ref nw, .ref nk, .int mhasKept, .ref nt, .int mtaped, .ref nr, .int mrowMany, .int mroundOf, .int mroundFrom, .int mouts, .ref nm, .int mfromHour, .int mtoHour, .ref ns, .int mfrom, .int mto, .int msort, .int misFault, .int mdeep, .int mcoded, .int mlines, .ref nl, .ref nc, .ref nF, .ref np, .ref ntr, .ref nb, .int mbestCost, .ref nso, .ref nsi, .ref nit, .ref nsh, .ref nsf, .ref nss, .ref nrc, .int (nI u.1), .int (nI jd), .int mnumber, .int mwhose, .int msize, .int u.2.1])), (nrc, .inl (G.2.1, 30, .inl u.2.2))]) := by
  refine MI.start (by decide +kernel) (Nat.le_of_ble_eq_true rfl) ?_
  intro p e s m below meth c A ls hC hK hP hD hS hA hl
  have hl : lv_has ls 5 [(0, .ref h0), (1, .int 3), (2, .int 2), (3, .int xx)] := hl
  obtain ⟨hx, hb, hr, hml, hB, hown, hlocks, hnm⟩ := id hC
  refine lv_iload_n hx hb dX12_bodyFrom_0 rfl (lv_at hl 1 rfl) ?_
  refine lv_istore (lv' := [(4, .int 3), (0, .ref h0), (1, .int 3), (2, .int 2), (3, .int xx)]) hx hb dX12_bodyFrom_1 hl (by decide) rfl (fun ls hl => ?_)
  refine lv_iload hx hb dX12_bodyFrom_3 (lv_at hl 0 rfl) ?_
  refine lv_iload_n hx hb dX12_bodyFrom_5 rfl (lv_at hl 3 rfl) ?_
  refine pS hC hK hl (m_hasOwn32 l G) si_X12_360 rfl rfl (Nat.le_of_ble_eq_true rfl) ⟨Nat.le_of_ble_eq_true rfl, Nat.le_of_ble_eq_true rfl⟩ ⟨by first | exact Nat.le_of_ble_eq_true rfl | exact Nat.zero_le _, by first | exact Nat.le_of_ble_eq_true rfl | exact Nat.zero_le _⟩ dX12_bodyFrom_6 (fun r6426 hr6426 => ?_)
  obtain rfl := hr6426
  refine lv_if_ne (tgt := 22) hx hb dX12_bodyFrom_9 (by decide) (fun c9 => absurd (by decide) c9) (fun _ => ?_)
  refine lv_iload hx hb dX12_bodyFrom_12 (lv_at hl 0 rfl) ?_
  refine pS hC hK hl (m_above3 l G) si_X12_348 rfl rfl (Nat.le_of_ble_eq_true rfl) ⟨Nat.le_of_ble_eq_true rfl, Nat.le_of_ble_eq_true rfl⟩ ⟨by first | exact Nat.le_of_ble_eq_true rfl | exact Nat.zero_le _, by first | exact Nat.le_of_ble_eq_true rfl | exact Nat.zero_le _⟩ dX12_bodyFrom_14 (fun r6428 hr6428 => ?_)
  obtain rfl := hr6428
  refine lv_istore (lv' := [(4, .int 1), (0, .ref h0), (1, .int 3), (2, .int 2), (3, .int xx)]) hx hb dX12_bodyFrom_17 hl (by decide) rfl (fun ls hl => ?_)
  refine lv_goto (tgt := 3) hx hb dX12_bodyFrom_19 (by decide) ?_
  refine lv_iload hx hb dX12_bodyFrom_3 (lv_at hl 0 rfl) ?_
  refine lv_iload_n hx hb dX12_bodyFrom_5 rfl (lv_at hl 3 rfl) ?_
  refine pS hC hK hl (m_hasOwn12 l G) si_X12_360 rfl rfl (Nat.le_of_ble_eq_true rfl) ⟨Nat.le_of_ble_eq_true rfl, Nat.le_of_ble_eq_true rfl⟩ ⟨by first | exact Nat.le_of_ble_eq_true rfl | exact Nat.zero_le _, by first | exact Nat.le_of_ble_eq_true rfl | exact Nat.zero_le _⟩ dX12_bodyFrom_6 (fun r6430 hr6430 => ?_)
  obtain rfl := hr6430
  refine lv_if_ne (tgt := 22) hx hb dX12_bodyFrom_9 (by decide) (fun c9 => absurd (by decide) c9) (fun _ => ?_)
  refine lv_iload hx hb dX12_bodyFrom_12 (lv_at hl 0 rfl) ?_
  refine pS hC hK hl (m_above1 l G) si_X12_348 rfl rfl (Nat.le_of_ble_eq_true rfl) ⟨Nat.le_of_ble_eq_true rfl, Nat.le_of_ble_eq_true rfl⟩ ⟨by first | exact Nat.le_of_ble_eq_true rfl | exact Nat.zero_le _, by first | exact Nat.le_of_ble_eq_true rfl | exact Nat.zero_le _⟩ dX12_bodyFrom_14 (fun r6432 hr6432 => ?_)
  obtain rfl := hr6432
  refine lv_istore (lv' := [(4, .int 0), (0, .ref h0), (1, .int 3), (2, .int 2), (3, .int xx)]) hx hb dX12_bodyFrom_17 hl (by decide) rfl (fun ls hl => ?_)
  refine lv_goto (tgt := 3) hx hb dX12_bodyFrom_19 (by decide) ?_
  refine lv_iload hx hb dX12_bodyFrom_3 (lv_at hl 0 rfl) ?_
  refine lv_iload_n hx hb dX12_bodyFrom_5 rfl (lv_at hl 3 rfl) ?_
  refine pS hC hK hl (m_hasOwn02 l G) si_X12_360 rfl rfl (Nat.le_of_ble_eq_true rfl) ⟨Nat.le_of_ble_eq_true rfl, Nat.le_of_ble_eq_true rfl⟩ ⟨by first | exact Nat.le_of_ble_eq_true rfl | exact Nat.zero_le _, by first | exact Nat.le_of_ble_eq_true rfl | exact Nat.zero_le _⟩ dX12_bodyFrom_6 (fun r6434 hr6434 => ?_)
  obtain rfl := hr6434
  refine lv_if_ne (tgt := 22) hx hb dX12_bodyFrom_9 (by decide) (fun _ => ?_) (fun c9 => absurd c9 (by decide))
  refine lv_aload_n hx hb dX12_bodyFrom_22 rfl (lv_at hl 1 rfl) ?_
  refine lv_iload hx hb dX12_bodyFrom_23 (lv_at hl 0 rfl) ?_
  refine lv_iload_n hx hb dX12_bodyFrom_25 rfl (lv_at hl 3 rfl) ?_
  refine lv_iload_n hx hb dX12_bodyFrom_26 rfl (lv_at hl 4 rfl) ?_
  refine iV (wr := []) hC hK hl hP hD hS hA (m_body02 l G h0 xx nw nk mhasKept nt mtaped nr mrowMany mroundOf mroundFrom mouts nm mfromHour mtoHour ns mfrom mto msort misFault mdeep mcoded mlines nl nc nF np ntr nb mbestCost nso nsi nit nsh nsf nss nrc jr jd mnumber mwhose msize misParted fnrc (by omega) (by omega)) si_X12_363 [0, 1] [] rfl rfl (by decide) rfl (by decide) (by decide) rfl rfl rfl rfl rfl (Nat.le_of_ble_eq_true rfl) ⟨Nat.le_of_ble_eq_true rfl, Nat.le_of_ble_eq_true rfl⟩ ⟨Nat.le_of_ble_eq_true rfl, Nat.le_of_ble_eq_true rfl⟩ dX12_bodyFrom_27 (fun r6436 u6437 H locs hr6436 hP hD hS => ?_)
  obtain ⟨jr16438, ip16439, gtrc6440⟩ := u6437
  try dsimp only at hr6436
  have hP : va_P G.1 vwCl [(h0, .inr (12, [.ref nw, .ref nk, .int mhasKept, .ref nt, .int mtaped, .ref nr, .int mrowMany, .int mroundOf, .int mroundFrom, .int mouts, .ref nm, .int mfromHour, .int mtoHour, .ref ns, .int mfrom, .int mto, .int msort, .int misFault, .int mdeep, .int mcoded, .int mlines, .ref nl, .ref nc, .ref nF, .ref np, .ref ntr, .ref nb, .int mbestCost, .ref nso, .ref nsi, .ref nit, .ref nsh, .ref nsf, .ref nss, .ref nrc, .int (nI jr16438), .int (nI jd), .int mnumber, .int mwhose, .int msize, .int ip16439])), (nrc, .inl (G.2.1, 30, .inl gtrc6440))] H := hP
  have hD : va_D A [(h0, .inr (12, [.ref nw, .ref nk, .int mhasKept, .ref nt, .int mtaped, .ref nr, .int mrowMany, .int mroundOf, .int mroundFrom, .int mouts, .ref nm, .int mfromHour, .int mtoHour, .ref ns, .int mfrom, .int mto, .int msort, .int misFault, .int mdeep, .int mcoded, .int mlines, .ref nl, .ref nc, .ref nF, .ref np, .ref ntr, .ref nb, .int mbestCost, .ref nso, .ref nsi, .ref nit, .ref nsh, .ref nsf, .ref nss, .ref nrc, .int (nI jr16438), .int (nI jd), .int mnumber, .int mwhose, .int msize, .int ip16439])), (nrc, .inl (G.2.1, 30, .inl gtrc6440))] := hD
  obtain ⟨hr6436, w6441⟩ := hr6436
  exact RI (v := r6436) hC hP hD hS [0, 1] (jr16438, ip16439, gtrc6440) rfl rfl (by decide) (⟨trivial, by omega⟩) rfl dX12_bodyFrom_30
set_option maxHeartbeats 4000000 in
set_option maxRecDepth 100000 in
theorem m_from62 (l : Launch) (G : GG) (h0 : Nat) (xx : Int32) (nw : Nat) (nk : Nat) (mhasKept : Int32) (nt : Nat) (mtaped : Int32) (nr : Nat) (mrowMany : Int32) (mroundOf : Int32) (mroundFrom : Int32) (mouts : Int32) (nm : Nat) (mfromHour : Int32) (mtoHour : Int32) (ns : Nat) (mfrom : Int32) (mto : Int32) (msort : Int32) (misFault : Int32) (mdeep : Int32) (mcoded : Int32) (mlines : Int32) (nl : Nat) (nc : Nat) (nF : Nat) (np : Nat) (ntr : Nat) (nb : Nat) (mbestCost : Int32) (nso : Nat) (nsi : Nat) (nit : Nat) (nsh : Nat) (nsf : Nat) (nss : Nat) (nrc : Nat) (jr : Nat) (jd : Nat) (mnumber : Int32) (mwhose : Int32) (msize : Int32) (misParted : Int32) (fnrc : Nat → Int32) (hjr : jr ≤ 30) (hjd : jd < 7) : MI l G yX12_bodyFrom cX12_bodyFrom 5 (some .int) 36 0 0 [.ref h0, .int 6, .int 2, .int xx] [(h0, .inr (12, [.ref nw, .ref nk, .int mhasKept, .ref nt, .int mtaped, .ref nr, .int mrowMany, .int mroundOf, .int mroundFrom, .int mouts, .ref nm, .int mfromHour, .int mtoHour, .ref ns, .int mfrom, .int mto, .int msort, .int misFault, .int mdeep, .int mcoded, .int mlines, .ref nl, .ref nc, .ref nF, .ref np, .ref ntr, .ref nb, .int mbestCost, .ref nso, .ref nsi, .ref nit, .ref nsh, .ref nsf, .ref nss, .ref nrc, .int (nI jr), .int (nI jd), .int mnumber, .int mwhose, .int msize, .int misParted])), (nrc, .inl (G.2.1, 30, .inl fnrc))] (fun (r : Int32) (u : Nat × Int32 × (Nat → Int32)) => (True) ∧ (u.1 ≤ 30)) (fun u : Nat × Int32 × (Nat → Int32) => [(h0, .inr (12, [.ref nw, .ref nk, .int mhasKept, .ref nt, .int mtaped, .ref nr, .int mrowMany, .int mroundOf, .int mroundFrom, .int mouts, .ref nm, .int mfromHour, .int mtoHour, .ref ns, .int mfrom, .int mto, .int msort, .int misFault, .int mdeep, .int mcoded, .int mlines, .ref nl, .ref nc, .ref nF, .ref np, .ref ntr, .ref nb, .int mbestCost, .ref nso, .ref nsi, .ref nit, .ref nsh, .ref nsf, .ref nss, .ref nrc, .int (nI u.1), .int (nI jd), .int mnumber, .int mwhose, .int msize, .int u.2.1])), (nrc, .inl (G.2.1, 30, .inl u.2.2))]) := by
  refine MI.start (by decide +kernel) (Nat.le_of_ble_eq_true rfl) ?_
  intro p e s m below meth c A ls hC hK hP hD hS hA hl
  have hl : lv_has ls 5 [(0, .ref h0), (1, .int 6), (2, .int 2), (3, .int xx)] := hl
  obtain ⟨hx, hb, hr, hml, hB, hown, hlocks, hnm⟩ := id hC
  refine lv_iload_n hx hb dX12_bodyFrom_0 rfl (lv_at hl 1 rfl) ?_
  refine lv_istore (lv' := [(4, .int 6), (0, .ref h0), (1, .int 6), (2, .int 2), (3, .int xx)]) hx hb dX12_bodyFrom_1 hl (by decide) rfl (fun ls hl => ?_)
  refine lv_iload hx hb dX12_bodyFrom_3 (lv_at hl 0 rfl) ?_
  refine lv_iload_n hx hb dX12_bodyFrom_5 rfl (lv_at hl 3 rfl) ?_
  refine pS hC hK hl (m_hasOwn62 l G) si_X12_360 rfl rfl (Nat.le_of_ble_eq_true rfl) ⟨Nat.le_of_ble_eq_true rfl, Nat.le_of_ble_eq_true rfl⟩ ⟨by first | exact Nat.le_of_ble_eq_true rfl | exact Nat.zero_le _, by first | exact Nat.le_of_ble_eq_true rfl | exact Nat.zero_le _⟩ dX12_bodyFrom_6 (fun r6442 hr6442 => ?_)
  obtain rfl := hr6442
  refine lv_if_ne (tgt := 22) hx hb dX12_bodyFrom_9 (by decide) (fun c9 => absurd (by decide) c9) (fun _ => ?_)
  refine lv_iload hx hb dX12_bodyFrom_12 (lv_at hl 0 rfl) ?_
  refine pS hC hK hl (m_above6 l G) si_X12_348 rfl rfl (Nat.le_of_ble_eq_true rfl) ⟨Nat.le_of_ble_eq_true rfl, Nat.le_of_ble_eq_true rfl⟩ ⟨by first | exact Nat.le_of_ble_eq_true rfl | exact Nat.zero_le _, by first | exact Nat.le_of_ble_eq_true rfl | exact Nat.zero_le _⟩ dX12_bodyFrom_14 (fun r6444 hr6444 => ?_)
  obtain rfl := hr6444
  refine lv_istore (lv' := [(4, .int 0), (0, .ref h0), (1, .int 6), (2, .int 2), (3, .int xx)]) hx hb dX12_bodyFrom_17 hl (by decide) rfl (fun ls hl => ?_)
  refine lv_goto (tgt := 3) hx hb dX12_bodyFrom_19 (by decide) ?_
  refine lv_iload hx hb dX12_bodyFrom_3 (lv_at hl 0 rfl) ?_
  refine lv_iload_n hx hb dX12_bodyFrom_5 rfl (lv_at hl 3 rfl) ?_
  refine pS hC hK hl (m_hasOwn02 l G) si_X12_360 rfl rfl (Nat.le_of_ble_eq_true rfl) ⟨Nat.le_of_ble_eq_true rfl, Nat.le_of_ble_eq_true rfl⟩ ⟨by first | exact Nat.le_of_ble_eq_true rfl | exact Nat.zero_le _, by first | exact Nat.le_of_ble_eq_true rfl | exact Nat.zero_le _⟩ dX12_bodyFrom_6 (fun r6446 hr6446 => ?_)
  obtain rfl := hr6446
  refine lv_if_ne (tgt := 22) hx hb dX12_bodyFrom_9 (by decide) (fun _ => ?_) (fun c9 => absurd c9 (by decide))
  refine lv_aload_n hx hb dX12_bodyFrom_22 rfl (lv_at hl 1 rfl) ?_
  refine lv_iload hx hb dX12_bodyFrom_23 (lv_at hl 0 rfl) ?_
  refine lv_iload_n hx hb dX12_bodyFrom_25 rfl (lv_at hl 3 rfl) ?_
  refine lv_iload_n hx hb dX12_bodyFrom_26 rfl (lv_at hl 4 rfl) ?_
  refine iV (wr := []) hC hK hl hP hD hS hA (m_body02 l G h0 xx nw nk mhasKept nt mtaped nr mrowMany mroundOf mroundFrom mouts nm mfromHour mtoHour ns mfrom mto msort misFault mdeep mcoded mlines nl nc nF np ntr nb mbestCost nso nsi nit nsh nsf nss nrc jr jd mnumber mwhose msize misParted fnrc (by omega) (by omega)) si_X12_363 [0, 1] [] rfl rfl (by decide) rfl (by decide) (by decide) rfl rfl rfl rfl rfl (Nat.le_of_ble_eq_true rfl) ⟨Nat.le_of_ble_eq_true rfl, Nat.le_of_ble_eq_true rfl⟩ ⟨Nat.le_of_ble_eq_true rfl, Nat.le_of_ble_eq_true rfl⟩ dX12_bodyFrom_27 (fun r6448 u6449 H locs hr6448 hP hD hS => ?_)
  obtain ⟨jr16450, ip16451, gtrc6452⟩ := u6449
  try dsimp only at hr6448
  have hP : va_P G.1 vwCl [(h0, .inr (12, [.ref nw, .ref nk, .int mhasKept, .ref nt, .int mtaped, .ref nr, .int mrowMany, .int mroundOf, .int mroundFrom, .int mouts, .ref nm, .int mfromHour, .int mtoHour, .ref ns, .int mfrom, .int mto, .int msort, .int misFault, .int mdeep, .int mcoded, .int mlines, .ref nl, .ref nc, .ref nF, .ref np, .ref ntr, .ref nb, .int mbestCost, .ref nso, .ref nsi, .ref nit, .ref nsh, .ref nsf, .ref nss, .ref nrc, .int (nI jr16450), .int (nI jd), .int mnumber, .int mwhose, .int msize, .int ip16451])), (nrc, .inl (G.2.1, 30, .inl gtrc6452))] H := hP
  have hD : va_D A [(h0, .inr (12, [.ref nw, .ref nk, .int mhasKept, .ref nt, .int mtaped, .ref nr, .int mrowMany, .int mroundOf, .int mroundFrom, .int mouts, .ref nm, .int mfromHour, .int mtoHour, .ref ns, .int mfrom, .int mto, .int msort, .int misFault, .int mdeep, .int mcoded, .int mlines, .ref nl, .ref nc, .ref nF, .ref np, .ref ntr, .ref nb, .int mbestCost, .ref nso, .ref nsi, .ref nit, .ref nsh, .ref nsf, .ref nss, .ref nrc, .int (nI jr16450), .int (nI jd), .int mnumber, .int mwhose, .int msize, .int ip16451])), (nrc, .inl (G.2.1, 30, .inl gtrc6452))] := hD
  obtain ⟨hr6448, w6453⟩ := hr6448
  exact RI (v := r6448) hC hP hD hS [0, 1] (jr16450, ip16451, gtrc6452) rfl rfl (by decide) (⟨trivial, by omega⟩) rfl dX12_bodyFrom_30
set_option maxHeartbeats 4000000 in
set_option maxRecDepth 100000 in
theorem m_dealt2 (l : Launch) (G : GG) (h0 : Nat) (xx : Int32) (nw : Nat) (nk : Nat) (mhasKept : Int32) (nt : Nat) (mtaped : Int32) (nr : Nat) (mrowMany : Int32) (mroundOf : Int32) (mroundFrom : Int32) (mouts : Int32) (nm : Nat) (mfromHour : Int32) (mtoHour : Int32) (ns : Nat) (mfrom : Int32) (mto : Int32) (msort : Int32) (misFault : Int32) (mdeep : Int32) (mcoded : Int32) (mlines : Int32) (nl : Nat) (nc : Nat) (nF : Nat) (np : Nat) (ntr : Nat) (nb : Nat) (mbestCost : Int32) (nso : Nat) (nsi : Nat) (nit : Nat) (nsh : Nat) (nsf : Nat) (nss : Nat) (nrc : Nat) (jr : Nat) (jd : Nat) (mnumber : Int32) (mwhose : Int32) (msize : Int32) (misParted : Int32) (fnrc : Nat → Int32) (hjr : jr ≤ 30) (hjd : jd < 7) : MI l G yX12_dealt cX12_dealt 3 (some .int) 38 0 0 [.ref h0, .int 2, .int xx] [(h0, .inr (12, [.ref nw, .ref nk, .int mhasKept, .ref nt, .int mtaped, .ref nr, .int mrowMany, .int mroundOf, .int mroundFrom, .int mouts, .ref nm, .int mfromHour, .int mtoHour, .ref ns, .int mfrom, .int mto, .int msort, .int misFault, .int mdeep, .int mcoded, .int mlines, .ref nl, .ref nc, .ref nF, .ref np, .ref ntr, .ref nb, .int mbestCost, .ref nso, .ref nsi, .ref nit, .ref nsh, .ref nsf, .ref nss, .ref nrc, .int (nI jr), .int (nI jd), .int mnumber, .int mwhose, .int msize, .int misParted])), (nrc, .inl (G.2.1, 30, .inl fnrc))] (fun (r : Int32) (u : Nat × Int32 × (Nat → Int32)) => (True) ∧ (u.1 ≤ 30)) (fun u : Nat × Int32 × (Nat → Int32) => [(h0, .inr (12, [.ref nw, .ref nk, .int mhasKept, .ref nt, .int mtaped, .ref nr, .int mrowMany, .int mroundOf, .int mroundFrom, .int mouts, .ref nm, .int mfromHour, .int mtoHour, .ref ns, .int mfrom, .int mto, .int msort, .int misFault, .int mdeep, .int mcoded, .int mlines, .ref nl, .ref nc, .ref nF, .ref np, .ref ntr, .ref nb, .int mbestCost, .ref nso, .ref nsi, .ref nit, .ref nsh, .ref nsf, .ref nss, .ref nrc, .int (nI u.1), .int (nI jd), .int mnumber, .int mwhose, .int msize, .int u.2.1])), (nrc, .inl (G.2.1, 30, .inl u.2.2))]) := by
  refine MI.start (by decide +kernel) (Nat.le_of_ble_eq_true rfl) ?_
  intro p e s m below meth c A ls hC hK hP hD hS hA hl
  have hl : lv_has ls 3 [(0, .ref h0), (1, .int 2), (2, .int xx)] := hl
  obtain ⟨hx, hb, hr, hml, hB, hown, hlocks, hnm⟩ := id hC
  refine lv_aload_n hx hb dX12_dealt_0 rfl (lv_at hl 0 rfl) ?_
  refine lv_aload_n hx hb dX12_dealt_1 rfl (lv_at hl 0 rfl) ?_
  refine gf_X12_354 hC rfl hK hP 0 rfl rfl dX12_dealt_2 ?_
  refine lv_iload_n hx hb dX12_dealt_5 rfl (lv_at hl 1 rfl) ?_
  refine lv_iload_n hx hb dX12_dealt_6 rfl (lv_at hl 2 rfl) ?_
  rcases (show jd = 0 ∨ jd = 1 ∨ jd = 2 ∨ jd = 3 ∨ jd = 4 ∨ jd = 5 ∨ jd = 6 by omega) with rfl | rfl | rfl | rfl | rfl | rfl | rfl
  · refine iV (wr := []) hC hK hl hP hD hS hA (m_from02 l G h0 xx nw nk mhasKept nt mtaped nr mrowMany mroundOf mroundFrom mouts nm mfromHour mtoHour ns mfrom mto msort misFault mdeep mcoded mlines nl nc nF np ntr nb mbestCost nso nsi nit nsh nsf nss nrc jr 0 mnumber mwhose msize misParted fnrc (by omega) (by omega)) si_X12_357 [0, 1] [] rfl rfl (by decide) rfl (by decide) (by decide) rfl rfl rfl rfl rfl (Nat.le_of_ble_eq_true rfl) ⟨Nat.le_of_ble_eq_true rfl, Nat.le_of_ble_eq_true rfl⟩ ⟨Nat.le_of_ble_eq_true rfl, Nat.le_of_ble_eq_true rfl⟩ dX12_dealt_7 (fun r6454 u6455 H locs hr6454 hP hD hS => ?_)
    obtain ⟨jr16456, ip16457, gtrc6458⟩ := u6455
    try dsimp only at hr6454
    have hP : va_P G.1 vwCl [(h0, .inr (12, [.ref nw, .ref nk, .int mhasKept, .ref nt, .int mtaped, .ref nr, .int mrowMany, .int mroundOf, .int mroundFrom, .int mouts, .ref nm, .int mfromHour, .int mtoHour, .ref ns, .int mfrom, .int mto, .int msort, .int misFault, .int mdeep, .int mcoded, .int mlines, .ref nl, .ref nc, .ref nF, .ref np, .ref ntr, .ref nb, .int mbestCost, .ref nso, .ref nsi, .ref nit, .ref nsh, .ref nsf, .ref nss, .ref nrc, .int (nI jr16456), .int 0, .int mnumber, .int mwhose, .int msize, .int ip16457])), (nrc, .inl (G.2.1, 30, .inl gtrc6458))] H := hP
    have hD : va_D A [(h0, .inr (12, [.ref nw, .ref nk, .int mhasKept, .ref nt, .int mtaped, .ref nr, .int mrowMany, .int mroundOf, .int mroundFrom, .int mouts, .ref nm, .int mfromHour, .int mtoHour, .ref ns, .int mfrom, .int mto, .int msort, .int misFault, .int mdeep, .int mcoded, .int mlines, .ref nl, .ref nc, .ref nF, .ref np, .ref ntr, .ref nb, .int mbestCost, .ref nso, .ref nsi, .ref nit, .ref nsh, .ref nsf, .ref nss, .ref nrc, .int (nI jr16456), .int 0, .int mnumber, .int mwhose, .int msize, .int ip16457])), (nrc, .inl (G.2.1, 30, .inl gtrc6458))] := hD
    obtain ⟨hr6454, w6459⟩ := hr6454
    exact RI (v := r6454) hC hP hD hS [0, 1] (jr16456, ip16457, gtrc6458) rfl rfl (by decide) (⟨trivial, by omega⟩) rfl dX12_dealt_10
  · refine iV (wr := []) hC hK hl hP hD hS hA (m_from12 l G h0 xx nw nk mhasKept nt mtaped nr mrowMany mroundOf mroundFrom mouts nm mfromHour mtoHour ns mfrom mto msort misFault mdeep mcoded mlines nl nc nF np ntr nb mbestCost nso nsi nit nsh nsf nss nrc jr 1 mnumber mwhose msize misParted fnrc (by omega) (by omega)) si_X12_357 [0, 1] [] rfl rfl (by decide) rfl (by decide) (by decide) rfl rfl rfl rfl rfl (Nat.le_of_ble_eq_true rfl) ⟨Nat.le_of_ble_eq_true rfl, Nat.le_of_ble_eq_true rfl⟩ ⟨Nat.le_of_ble_eq_true rfl, Nat.le_of_ble_eq_true rfl⟩ dX12_dealt_7 (fun r6460 u6461 H locs hr6460 hP hD hS => ?_)
    obtain ⟨jr16462, ip16463, gtrc6464⟩ := u6461
    try dsimp only at hr6460
    have hP : va_P G.1 vwCl [(h0, .inr (12, [.ref nw, .ref nk, .int mhasKept, .ref nt, .int mtaped, .ref nr, .int mrowMany, .int mroundOf, .int mroundFrom, .int mouts, .ref nm, .int mfromHour, .int mtoHour, .ref ns, .int mfrom, .int mto, .int msort, .int misFault, .int mdeep, .int mcoded, .int mlines, .ref nl, .ref nc, .ref nF, .ref np, .ref ntr, .ref nb, .int mbestCost, .ref nso, .ref nsi, .ref nit, .ref nsh, .ref nsf, .ref nss, .ref nrc, .int (nI jr16462), .int 1, .int mnumber, .int mwhose, .int msize, .int ip16463])), (nrc, .inl (G.2.1, 30, .inl gtrc6464))] H := hP
    have hD : va_D A [(h0, .inr (12, [.ref nw, .ref nk, .int mhasKept, .ref nt, .int mtaped, .ref nr, .int mrowMany, .int mroundOf, .int mroundFrom, .int mouts, .ref nm, .int mfromHour, .int mtoHour, .ref ns, .int mfrom, .int mto, .int msort, .int misFault, .int mdeep, .int mcoded, .int mlines, .ref nl, .ref nc, .ref nF, .ref np, .ref ntr, .ref nb, .int mbestCost, .ref nso, .ref nsi, .ref nit, .ref nsh, .ref nsf, .ref nss, .ref nrc, .int (nI jr16462), .int 1, .int mnumber, .int mwhose, .int msize, .int ip16463])), (nrc, .inl (G.2.1, 30, .inl gtrc6464))] := hD
    obtain ⟨hr6460, w6465⟩ := hr6460
    exact RI (v := r6460) hC hP hD hS [0, 1] (jr16462, ip16463, gtrc6464) rfl rfl (by decide) (⟨trivial, by omega⟩) rfl dX12_dealt_10
  · refine iV (wr := []) hC hK hl hP hD hS hA (m_from22 l G h0 xx nw nk mhasKept nt mtaped nr mrowMany mroundOf mroundFrom mouts nm mfromHour mtoHour ns mfrom mto msort misFault mdeep mcoded mlines nl nc nF np ntr nb mbestCost nso nsi nit nsh nsf nss nrc jr 2 mnumber mwhose msize misParted fnrc (by omega) (by omega)) si_X12_357 [0, 1] [] rfl rfl (by decide) rfl (by decide) (by decide) rfl rfl rfl rfl rfl (Nat.le_of_ble_eq_true rfl) ⟨Nat.le_of_ble_eq_true rfl, Nat.le_of_ble_eq_true rfl⟩ ⟨Nat.le_of_ble_eq_true rfl, Nat.le_of_ble_eq_true rfl⟩ dX12_dealt_7 (fun r6466 u6467 H locs hr6466 hP hD hS => ?_)
    obtain ⟨jr16468, ip16469, gtrc6470⟩ := u6467
    try dsimp only at hr6466
    have hP : va_P G.1 vwCl [(h0, .inr (12, [.ref nw, .ref nk, .int mhasKept, .ref nt, .int mtaped, .ref nr, .int mrowMany, .int mroundOf, .int mroundFrom, .int mouts, .ref nm, .int mfromHour, .int mtoHour, .ref ns, .int mfrom, .int mto, .int msort, .int misFault, .int mdeep, .int mcoded, .int mlines, .ref nl, .ref nc, .ref nF, .ref np, .ref ntr, .ref nb, .int mbestCost, .ref nso, .ref nsi, .ref nit, .ref nsh, .ref nsf, .ref nss, .ref nrc, .int (nI jr16468), .int 2, .int mnumber, .int mwhose, .int msize, .int ip16469])), (nrc, .inl (G.2.1, 30, .inl gtrc6470))] H := hP
    have hD : va_D A [(h0, .inr (12, [.ref nw, .ref nk, .int mhasKept, .ref nt, .int mtaped, .ref nr, .int mrowMany, .int mroundOf, .int mroundFrom, .int mouts, .ref nm, .int mfromHour, .int mtoHour, .ref ns, .int mfrom, .int mto, .int msort, .int misFault, .int mdeep, .int mcoded, .int mlines, .ref nl, .ref nc, .ref nF, .ref np, .ref ntr, .ref nb, .int mbestCost, .ref nso, .ref nsi, .ref nit, .ref nsh, .ref nsf, .ref nss, .ref nrc, .int (nI jr16468), .int 2, .int mnumber, .int mwhose, .int msize, .int ip16469])), (nrc, .inl (G.2.1, 30, .inl gtrc6470))] := hD
    obtain ⟨hr6466, w6471⟩ := hr6466
    exact RI (v := r6466) hC hP hD hS [0, 1] (jr16468, ip16469, gtrc6470) rfl rfl (by decide) (⟨trivial, by omega⟩) rfl dX12_dealt_10
  · refine iV (wr := []) hC hK hl hP hD hS hA (m_from32 l G h0 xx nw nk mhasKept nt mtaped nr mrowMany mroundOf mroundFrom mouts nm mfromHour mtoHour ns mfrom mto msort misFault mdeep mcoded mlines nl nc nF np ntr nb mbestCost nso nsi nit nsh nsf nss nrc jr 3 mnumber mwhose msize misParted fnrc (by omega) (by omega)) si_X12_357 [0, 1] [] rfl rfl (by decide) rfl (by decide) (by decide) rfl rfl rfl rfl rfl (Nat.le_of_ble_eq_true rfl) ⟨Nat.le_of_ble_eq_true rfl, Nat.le_of_ble_eq_true rfl⟩ ⟨Nat.le_of_ble_eq_true rfl, Nat.le_of_ble_eq_true rfl⟩ dX12_dealt_7 (fun r6472 u6473 H locs hr6472 hP hD hS => ?_)
    obtain ⟨jr16474, ip16475, gtrc6476⟩ := u6473
    try dsimp only at hr6472
    have hP : va_P G.1 vwCl [(h0, .inr (12, [.ref nw, .ref nk, .int mhasKept, .ref nt, .int mtaped, .ref nr, .int mrowMany, .int mroundOf, .int mroundFrom, .int mouts, .ref nm, .int mfromHour, .int mtoHour, .ref ns, .int mfrom, .int mto, .int msort, .int misFault, .int mdeep, .int mcoded, .int mlines, .ref nl, .ref nc, .ref nF, .ref np, .ref ntr, .ref nb, .int mbestCost, .ref nso, .ref nsi, .ref nit, .ref nsh, .ref nsf, .ref nss, .ref nrc, .int (nI jr16474), .int 3, .int mnumber, .int mwhose, .int msize, .int ip16475])), (nrc, .inl (G.2.1, 30, .inl gtrc6476))] H := hP
    have hD : va_D A [(h0, .inr (12, [.ref nw, .ref nk, .int mhasKept, .ref nt, .int mtaped, .ref nr, .int mrowMany, .int mroundOf, .int mroundFrom, .int mouts, .ref nm, .int mfromHour, .int mtoHour, .ref ns, .int mfrom, .int mto, .int msort, .int misFault, .int mdeep, .int mcoded, .int mlines, .ref nl, .ref nc, .ref nF, .ref np, .ref ntr, .ref nb, .int mbestCost, .ref nso, .ref nsi, .ref nit, .ref nsh, .ref nsf, .ref nss, .ref nrc, .int (nI jr16474), .int 3, .int mnumber, .int mwhose, .int msize, .int ip16475])), (nrc, .inl (G.2.1, 30, .inl gtrc6476))] := hD
    obtain ⟨hr6472, w6477⟩ := hr6472
    exact RI (v := r6472) hC hP hD hS [0, 1] (jr16474, ip16475, gtrc6476) rfl rfl (by decide) (⟨trivial, by omega⟩) rfl dX12_dealt_10
  · refine iV (wr := []) hC hK hl hP hD hS hA (m_from42 l G h0 xx nw nk mhasKept nt mtaped nr mrowMany mroundOf mroundFrom mouts nm mfromHour mtoHour ns mfrom mto msort misFault mdeep mcoded mlines nl nc nF np ntr nb mbestCost nso nsi nit nsh nsf nss nrc jr 4 mnumber mwhose msize misParted fnrc (by omega) (by omega)) si_X12_357 [0, 1] [] rfl rfl (by decide) rfl (by decide) (by decide) rfl rfl rfl rfl rfl (Nat.le_of_ble_eq_true rfl) ⟨Nat.le_of_ble_eq_true rfl, Nat.le_of_ble_eq_true rfl⟩ ⟨Nat.le_of_ble_eq_true rfl, Nat.le_of_ble_eq_true rfl⟩ dX12_dealt_7 (fun r6478 u6479 H locs hr6478 hP hD hS => ?_)
    obtain ⟨jr16480, ip16481, gtrc6482⟩ := u6479
    try dsimp only at hr6478
    have hP : va_P G.1 vwCl [(h0, .inr (12, [.ref nw, .ref nk, .int mhasKept, .ref nt, .int mtaped, .ref nr, .int mrowMany, .int mroundOf, .int mroundFrom, .int mouts, .ref nm, .int mfromHour, .int mtoHour, .ref ns, .int mfrom, .int mto, .int msort, .int misFault, .int mdeep, .int mcoded, .int mlines, .ref nl, .ref nc, .ref nF, .ref np, .ref ntr, .ref nb, .int mbestCost, .ref nso, .ref nsi, .ref nit, .ref nsh, .ref nsf, .ref nss, .ref nrc, .int (nI jr16480), .int 4, .int mnumber, .int mwhose, .int msize, .int ip16481])), (nrc, .inl (G.2.1, 30, .inl gtrc6482))] H := hP
    have hD : va_D A [(h0, .inr (12, [.ref nw, .ref nk, .int mhasKept, .ref nt, .int mtaped, .ref nr, .int mrowMany, .int mroundOf, .int mroundFrom, .int mouts, .ref nm, .int mfromHour, .int mtoHour, .ref ns, .int mfrom, .int mto, .int msort, .int misFault, .int mdeep, .int mcoded, .int mlines, .ref nl, .ref nc, .ref nF, .ref np, .ref ntr, .ref nb, .int mbestCost, .ref nso, .ref nsi, .ref nit, .ref nsh, .ref nsf, .ref nss, .ref nrc, .int (nI jr16480), .int 4, .int mnumber, .int mwhose, .int msize, .int ip16481])), (nrc, .inl (G.2.1, 30, .inl gtrc6482))] := hD
    obtain ⟨hr6478, w6483⟩ := hr6478
    exact RI (v := r6478) hC hP hD hS [0, 1] (jr16480, ip16481, gtrc6482) rfl rfl (by decide) (⟨trivial, by omega⟩) rfl dX12_dealt_10
  · refine iV (wr := []) hC hK hl hP hD hS hA (m_from52 l G h0 xx nw nk mhasKept nt mtaped nr mrowMany mroundOf mroundFrom mouts nm mfromHour mtoHour ns mfrom mto msort misFault mdeep mcoded mlines nl nc nF np ntr nb mbestCost nso nsi nit nsh nsf nss nrc jr 5 mnumber mwhose msize misParted fnrc (by omega) (by omega)) si_X12_357 [0, 1] [] rfl rfl (by decide) rfl (by decide) (by decide) rfl rfl rfl rfl rfl (Nat.le_of_ble_eq_true rfl) ⟨Nat.le_of_ble_eq_true rfl, Nat.le_of_ble_eq_true rfl⟩ ⟨Nat.le_of_ble_eq_true rfl, Nat.le_of_ble_eq_true rfl⟩ dX12_dealt_7 (fun r6484 u6485 H locs hr6484 hP hD hS => ?_)
    obtain ⟨jr16486, ip16487, gtrc6488⟩ := u6485
    try dsimp only at hr6484
    have hP : va_P G.1 vwCl [(h0, .inr (12, [.ref nw, .ref nk, .int mhasKept, .ref nt, .int mtaped, .ref nr, .int mrowMany, .int mroundOf, .int mroundFrom, .int mouts, .ref nm, .int mfromHour, .int mtoHour, .ref ns, .int mfrom, .int mto, .int msort, .int misFault, .int mdeep, .int mcoded, .int mlines, .ref nl, .ref nc, .ref nF, .ref np, .ref ntr, .ref nb, .int mbestCost, .ref nso, .ref nsi, .ref nit, .ref nsh, .ref nsf, .ref nss, .ref nrc, .int (nI jr16486), .int 5, .int mnumber, .int mwhose, .int msize, .int ip16487])), (nrc, .inl (G.2.1, 30, .inl gtrc6488))] H := hP
    have hD : va_D A [(h0, .inr (12, [.ref nw, .ref nk, .int mhasKept, .ref nt, .int mtaped, .ref nr, .int mrowMany, .int mroundOf, .int mroundFrom, .int mouts, .ref nm, .int mfromHour, .int mtoHour, .ref ns, .int mfrom, .int mto, .int msort, .int misFault, .int mdeep, .int mcoded, .int mlines, .ref nl, .ref nc, .ref nF, .ref np, .ref ntr, .ref nb, .int mbestCost, .ref nso, .ref nsi, .ref nit, .ref nsh, .ref nsf, .ref nss, .ref nrc, .int (nI jr16486), .int 5, .int mnumber, .int mwhose, .int msize, .int ip16487])), (nrc, .inl (G.2.1, 30, .inl gtrc6488))] := hD
    obtain ⟨hr6484, w6489⟩ := hr6484
    exact RI (v := r6484) hC hP hD hS [0, 1] (jr16486, ip16487, gtrc6488) rfl rfl (by decide) (⟨trivial, by omega⟩) rfl dX12_dealt_10
  · refine iV (wr := []) hC hK hl hP hD hS hA (m_from62 l G h0 xx nw nk mhasKept nt mtaped nr mrowMany mroundOf mroundFrom mouts nm mfromHour mtoHour ns mfrom mto msort misFault mdeep mcoded mlines nl nc nF np ntr nb mbestCost nso nsi nit nsh nsf nss nrc jr 6 mnumber mwhose msize misParted fnrc (by omega) (by omega)) si_X12_357 [0, 1] [] rfl rfl (by decide) rfl (by decide) (by decide) rfl rfl rfl rfl rfl (Nat.le_of_ble_eq_true rfl) ⟨Nat.le_of_ble_eq_true rfl, Nat.le_of_ble_eq_true rfl⟩ ⟨Nat.le_of_ble_eq_true rfl, Nat.le_of_ble_eq_true rfl⟩ dX12_dealt_7 (fun r6490 u6491 H locs hr6490 hP hD hS => ?_)
    obtain ⟨jr16492, ip16493, gtrc6494⟩ := u6491
    try dsimp only at hr6490
    have hP : va_P G.1 vwCl [(h0, .inr (12, [.ref nw, .ref nk, .int mhasKept, .ref nt, .int mtaped, .ref nr, .int mrowMany, .int mroundOf, .int mroundFrom, .int mouts, .ref nm, .int mfromHour, .int mtoHour, .ref ns, .int mfrom, .int mto, .int msort, .int misFault, .int mdeep, .int mcoded, .int mlines, .ref nl, .ref nc, .ref nF, .ref np, .ref ntr, .ref nb, .int mbestCost, .ref nso, .ref nsi, .ref nit, .ref nsh, .ref nsf, .ref nss, .ref nrc, .int (nI jr16492), .int 6, .int mnumber, .int mwhose, .int msize, .int ip16493])), (nrc, .inl (G.2.1, 30, .inl gtrc6494))] H := hP
    have hD : va_D A [(h0, .inr (12, [.ref nw, .ref nk, .int mhasKept, .ref nt, .int mtaped, .ref nr, .int mrowMany, .int mroundOf, .int mroundFrom, .int mouts, .ref nm, .int mfromHour, .int mtoHour, .ref ns, .int mfrom, .int mto, .int msort, .int misFault, .int mdeep, .int mcoded, .int mlines, .ref nl, .ref nc, .ref nF, .ref np, .ref ntr, .ref nb, .int mbestCost, .ref nso, .ref nsi, .ref nit, .ref nsh, .ref nsf, .ref nss, .ref nrc, .int (nI jr16492), .int 6, .int mnumber, .int mwhose, .int msize, .int ip16493])), (nrc, .inl (G.2.1, 30, .inl gtrc6494))] := hD
    obtain ⟨hr6490, w6495⟩ := hr6490
    exact RI (v := r6490) hC hP hD hS [0, 1] (jr16492, ip16493, gtrc6494) rfl rfl (by decide) (⟨trivial, by omega⟩) rfl dX12_dealt_10
set_option maxHeartbeats 4000000 in
set_option maxRecDepth 100000 in
theorem m_body03 (l : Launch) (G : GG) (h0 : Nat) (xx : Int32) (nw : Nat) (nk : Nat) (mhasKept : Int32) (nt : Nat) (mtaped : Int32) (nr : Nat) (mrowMany : Int32) (mroundOf : Int32) (mroundFrom : Int32) (mouts : Int32) (nm : Nat) (mfromHour : Int32) (mtoHour : Int32) (ns : Nat) (mfrom : Int32) (mto : Int32) (msort : Int32) (misFault : Int32) (mdeep : Int32) (mcoded : Int32) (mlines : Int32) (nl : Nat) (nc : Nat) (nF : Nat) (np : Nat) (ntr : Nat) (nb : Nat) (mbestCost : Int32) (nso : Nat) (nsi : Nat) (nit : Nat) (nsh : Nat) (nsf : Nat) (nss : Nat) (nrc : Nat) (jr : Nat) (jd : Nat) (mnumber : Int32) (mwhose : Int32) (msize : Int32) (misParted : Int32) (fnrc : Nat → Int32) (hjr : jr ≤ 30) (hjd : jd < 7) : MI l G yX12_body cX12_body 6 (some .int) 39 0 0 [.ref h0, .int 0, .int 3, .int xx] [(h0, .inr (12, [.ref nw, .ref nk, .int mhasKept, .ref nt, .int mtaped, .ref nr, .int mrowMany, .int mroundOf, .int mroundFrom, .int mouts, .ref nm, .int mfromHour, .int mtoHour, .ref ns, .int mfrom, .int mto, .int msort, .int misFault, .int mdeep, .int mcoded, .int mlines, .ref nl, .ref nc, .ref nF, .ref np, .ref ntr, .ref nb, .int mbestCost, .ref nso, .ref nsi, .ref nit, .ref nsh, .ref nsf, .ref nss, .ref nrc, .int (nI jr), .int (nI jd), .int mnumber, .int mwhose, .int msize, .int misParted])), (nrc, .inl (G.2.1, 30, .inl fnrc))] (fun (r : Int32) (u : Nat × Int32 × (Nat → Int32)) => (True) ∧ (u.1 ≤ 30)) (fun u : Nat × Int32 × (Nat → Int32) => [(h0, .inr (12, [.ref nw, .ref nk, .int mhasKept, .ref nt, .int mtaped, .ref nr, .int mrowMany, .int mroundOf, .int mroundFrom, .int mouts, .ref nm, .int mfromHour, .int mtoHour, .ref ns, .int mfrom, .int mto, .int msort, .int misFault, .int mdeep, .int mcoded, .int mlines, .ref nl, .ref nc, .ref nF, .ref np, .ref ntr, .ref nb, .int mbestCost, .ref nso, .ref nsi, .ref nit, .ref nsh, .ref nsf, .ref nss, .ref nrc, .int (nI u.1), .int (nI jd), .int mnumber, .int mwhose, .int msize, .int u.2.1])), (nrc, .inl (G.2.1, 30, .inl u.2.2))]) := by
  refine MI.start (by decide +kernel) (Nat.le_of_ble_eq_true rfl) ?_
  intro p e s m below meth c A ls hC hK hP hD hS hA hl
  have hl : lv_has ls 6 [(0, .ref h0), (1, .int 0), (2, .int 3), (3, .int xx)] := hl
  obtain ⟨hx, hb, hr, hml, hB, hown, hlocks, hnm⟩ := id hC
  refine lv_iconst (v := 4) hx hb dX12_body_0 (by decide) ?_
  refine lv_iload_n hx hb dX12_body_1 rfl (lv_at hl 1 rfl) ?_
  refine lv_imul hx hb dX12_body_2 ?_
  refine eqi (x1 := 0) (by decide) ?_
  refine lv_iload_n hx hb dX12_body_3 rfl (lv_at hl 2 rfl) ?_
  refine lv_iadd hx hb dX12_body_4 ?_
  refine eqi (x1 := 3) (by decide) ?_
  refine lv_tableIn (tgt := 158) hx hb dX12_body_5 (by decide) (by decide) rfl (by decide) ?_
  refine lv_aload_n hx hb dX12_body_158 rfl (lv_at hl 0 rfl) ?_
  refine lv_bipush (v := 13) hx hb dX12_body_159 (by decide) ?_
  refine vV (wr := []) hC hK hl hP hD hS hA (m_began l G h0 13 nw nk mhasKept nt mtaped nr mrowMany mroundOf mroundFrom mouts nm mfromHour mtoHour ns mfrom mto msort misFault mdeep mcoded mlines nl nc nF np ntr nb mbestCost nso nsi nit nsh nsf nss nrc jr (nI jd) mnumber mwhose msize misParted fnrc (by omega)) si_X12_366 [0, 1] [] rfl rfl (by decide) rfl (by decide) (by decide) rfl rfl rfl rfl rfl (Nat.le_of_ble_eq_true rfl) ⟨Nat.le_of_ble_eq_true rfl, Nat.le_of_ble_eq_true rfl⟩ ⟨Nat.le_of_ble_eq_true rfl, Nat.le_of_ble_eq_true rfl⟩ dX12_body_161 (fun u6497 H locs hr6496 hP hD hS => ?_)
  obtain ⟨jr16498, gtrc6499⟩ := u6497
  try dsimp only at hr6496
  have hP : va_P G.1 vwCl [(h0, .inr (12, [.ref nw, .ref nk, .int mhasKept, .ref nt, .int mtaped, .ref nr, .int mrowMany, .int mroundOf, .int mroundFrom, .int mouts, .ref nm, .int mfromHour, .int mtoHour, .ref ns, .int mfrom, .int mto, .int msort, .int misFault, .int mdeep, .int mcoded, .int mlines, .ref nl, .ref nc, .ref nF, .ref np, .ref ntr, .ref nb, .int mbestCost, .ref nso, .ref nsi, .ref nit, .ref nsh, .ref nsf, .ref nss, .ref nrc, .int (nI jr16498), .int (nI jd), .int mnumber, .int mwhose, .int msize, .int misParted])), (nrc, .inl (G.2.1, 30, .inl gtrc6499))] H := hP
  have hD : va_D A [(h0, .inr (12, [.ref nw, .ref nk, .int mhasKept, .ref nt, .int mtaped, .ref nr, .int mrowMany, .int mroundOf, .int mroundFrom, .int mouts, .ref nm, .int mfromHour, .int mtoHour, .ref ns, .int mfrom, .int mto, .int msort, .int misFault, .int mdeep, .int mcoded, .int mlines, .ref nl, .ref nc, .ref nF, .ref np, .ref ntr, .ref nb, .int mbestCost, .ref nso, .ref nsi, .ref nit, .ref nsh, .ref nsf, .ref nss, .ref nrc, .int (nI jr16498), .int (nI jd), .int mnumber, .int mwhose, .int msize, .int misParted])), (nrc, .inl (G.2.1, 30, .inl gtrc6499))] := hD
  have w6500 := hr6496
  refine lv_aload_n hx hb dX12_body_164 rfl (lv_at hl 0 rfl) ?_
  refine lv_aload_n hx hb dX12_body_165 rfl (lv_at hl 0 rfl) ?_
  refine gf_X12_375 hC rfl hK hP 0 rfl rfl dX12_body_166 ?_
  refine lv_aload_n hx hb dX12_body_169 rfl (lv_at hl 0 rfl) ?_
  refine gf_X12_378 hC rfl hK hP 0 rfl rfl dX12_body_170 ?_
  refine lv_icmp_ne (tgt := 180) hx hb dX12_body_173 (by decide) (fun c_173_6501 => ?_) (fun c_173_6501 => ?_)
  · refine lv_iconst (v := 0) hx hb dX12_body_180 (by decide) ?_
    refine pf_X12_380 hC rfl hK hP hD hS 0 (ws' := [(h0, .inr (12, [.ref nw, .ref nk, .int mhasKept, .ref nt, .int mtaped, .ref nr, .int mrowMany, .int mroundOf, .int mroundFrom, .int mouts, .ref nm, .int mfromHour, .int mtoHour, .ref ns, .int mfrom, .int mto, .int msort, .int misFault, .int mdeep, .int mcoded, .int mlines, .ref nl, .ref nc, .ref nF, .ref np, .ref ntr, .ref nb, .int mbestCost, .ref nso, .ref nsi, .ref nit, .ref nsh, .ref nsf, .ref nss, .ref nrc, .int (nI jr16498), .int (nI jd), .int mnumber, .int mwhose, .int msize, .int 0])), (nrc, .inl (G.2.1, 30, .inl gtrc6499))]) rfl (Nat.le_of_ble_eq_true rfl) rfl (by decide +kernel) (by decide +kernel) dX12_body_181 (fun H locs hP hD hS => ?_)
    refine lv_aload_n hx hb dX12_body_184 rfl (lv_at hl 0 rfl) ?_
    refine gf_X12_380 hC rfl hK hP 0 rfl rfl dX12_body_185 ?_
    refine lv_if_eq (tgt := 195) hx hb dX12_body_188 (by decide) (fun _ => ?_) (fun c9 => absurd (by decide) c9)
    refine lv_iload_n hx hb dX12_body_195 rfl (lv_at hl 3 rfl) ?_
    refine lv_aload_n hx hb dX12_body_196 rfl (lv_at hl 0 rfl) ?_
    refine gf_X12_375 hC rfl hK hP 0 rfl rfl dX12_body_197 ?_
    refine lv_aload_n hx hb dX12_body_200 rfl (lv_at hl 0 rfl) ?_
    refine gf_X12_378 hC rfl hK hP 0 rfl rfl dX12_body_201 ?_
    refine lv_isub hx hb dX12_body_204 ?_
    refine lv_idiv hx hb dX12_body_205 (nz_sub c_173_6501) ?_
    refine lv_topi (fun x6502 ex6502 => ?_)
    exact RI (v := x6502) hC hP hD hS [0, 1] (jr16498, 0, gtrc6499) rfl rfl (by decide) (⟨trivial, by omega⟩) rfl dX12_body_206
  · refine lv_iconst (v := 1) hx hb dX12_body_176 (by decide) ?_
    refine lv_goto (tgt := 181) hx hb dX12_body_177 (by decide) ?_
    refine pf_X12_380 hC rfl hK hP hD hS 0 (ws' := [(h0, .inr (12, [.ref nw, .ref nk, .int mhasKept, .ref nt, .int mtaped, .ref nr, .int mrowMany, .int mroundOf, .int mroundFrom, .int mouts, .ref nm, .int mfromHour, .int mtoHour, .ref ns, .int mfrom, .int mto, .int msort, .int misFault, .int mdeep, .int mcoded, .int mlines, .ref nl, .ref nc, .ref nF, .ref np, .ref ntr, .ref nb, .int mbestCost, .ref nso, .ref nsi, .ref nit, .ref nsh, .ref nsf, .ref nss, .ref nrc, .int (nI jr16498), .int (nI jd), .int mnumber, .int mwhose, .int msize, .int 1])), (nrc, .inl (G.2.1, 30, .inl gtrc6499))]) rfl (Nat.le_of_ble_eq_true rfl) rfl (by decide +kernel) (by decide +kernel) dX12_body_181 (fun H locs hP hD hS => ?_)
    refine lv_aload_n hx hb dX12_body_184 rfl (lv_at hl 0 rfl) ?_
    refine gf_X12_380 hC rfl hK hP 0 rfl rfl dX12_body_185 ?_
    refine lv_if_eq (tgt := 195) hx hb dX12_body_188 (by decide) (fun c9 => absurd c9 (by decide)) (fun _ => ?_)
    refine lv_iconst (v := 0) hx hb dX12_body_191 (by decide) ?_
    refine lv_goto (tgt := 206) hx hb dX12_body_192 (by decide) ?_
    exact RI (v := 0) hC hP hD hS [0, 1] (jr16498, 1, gtrc6499) rfl rfl (by decide) (⟨trivial, by omega⟩) rfl dX12_body_206
set_option maxHeartbeats 4000000 in
set_option maxRecDepth 100000 in
theorem m_from03 (l : Launch) (G : GG) (h0 : Nat) (xx : Int32) (nw : Nat) (nk : Nat) (mhasKept : Int32) (nt : Nat) (mtaped : Int32) (nr : Nat) (mrowMany : Int32) (mroundOf : Int32) (mroundFrom : Int32) (mouts : Int32) (nm : Nat) (mfromHour : Int32) (mtoHour : Int32) (ns : Nat) (mfrom : Int32) (mto : Int32) (msort : Int32) (misFault : Int32) (mdeep : Int32) (mcoded : Int32) (mlines : Int32) (nl : Nat) (nc : Nat) (nF : Nat) (np : Nat) (ntr : Nat) (nb : Nat) (mbestCost : Int32) (nso : Nat) (nsi : Nat) (nit : Nat) (nsh : Nat) (nsf : Nat) (nss : Nat) (nrc : Nat) (jr : Nat) (jd : Nat) (mnumber : Int32) (mwhose : Int32) (msize : Int32) (misParted : Int32) (fnrc : Nat → Int32) (hjr : jr ≤ 30) (hjd : jd < 7) : MI l G yX12_bodyFrom cX12_bodyFrom 5 (some .int) 40 0 0 [.ref h0, .int 0, .int 3, .int xx] [(h0, .inr (12, [.ref nw, .ref nk, .int mhasKept, .ref nt, .int mtaped, .ref nr, .int mrowMany, .int mroundOf, .int mroundFrom, .int mouts, .ref nm, .int mfromHour, .int mtoHour, .ref ns, .int mfrom, .int mto, .int msort, .int misFault, .int mdeep, .int mcoded, .int mlines, .ref nl, .ref nc, .ref nF, .ref np, .ref ntr, .ref nb, .int mbestCost, .ref nso, .ref nsi, .ref nit, .ref nsh, .ref nsf, .ref nss, .ref nrc, .int (nI jr), .int (nI jd), .int mnumber, .int mwhose, .int msize, .int misParted])), (nrc, .inl (G.2.1, 30, .inl fnrc))] (fun (r : Int32) (u : Nat × Int32 × (Nat → Int32)) => (True) ∧ (u.1 ≤ 30)) (fun u : Nat × Int32 × (Nat → Int32) => [(h0, .inr (12, [.ref nw, .ref nk, .int mhasKept, .ref nt, .int mtaped, .ref nr, .int mrowMany, .int mroundOf, .int mroundFrom, .int mouts, .ref nm, .int mfromHour, .int mtoHour, .ref ns, .int mfrom, .int mto, .int msort, .int misFault, .int mdeep, .int mcoded, .int mlines, .ref nl, .ref nc, .ref nF, .ref np, .ref ntr, .ref nb, .int mbestCost, .ref nso, .ref nsi, .ref nit, .ref nsh, .ref nsf, .ref nss, .ref nrc, .int (nI u.1), .int (nI jd), .int mnumber, .int mwhose, .int msize, .int u.2.1])), (nrc, .inl (G.2.1, 30, .inl u.2.2))]) := by
  refine MI.start (by decide +kernel) (Nat.le_of_ble_eq_true rfl) ?_
  intro p e s m below meth c A ls hC hK hP hD hS hA hl
  have hl : lv_has ls 5 [(0, .ref h0), (1, .int 0), (2, .int 3), (3, .int xx)] := hl
  obtain ⟨hx, hb, hr, hml, hB, hown, hlocks, hnm⟩ := id hC
  refine lv_iload_n hx hb dX12_bodyFrom_0 rfl (lv_at hl 1 rfl) ?_
  refine lv_istore (lv' := [(4, .int 0), (0, .ref h0), (1, .int 0), (2, .int 3), (3, .int xx)]) hx hb dX12_bodyFrom_1 hl (by decide) rfl (fun ls hl => ?_)
  refine lv_iload hx hb dX12_bodyFrom_3 (lv_at hl 0 rfl) ?_
  refine lv_iload_n hx hb dX12_bodyFrom_5 rfl (lv_at hl 3 rfl) ?_
  refine pS hC hK hl (m_hasOwn03 l G) si_X12_360 rfl rfl (Nat.le_of_ble_eq_true rfl) ⟨Nat.le_of_ble_eq_true rfl, Nat.le_of_ble_eq_true rfl⟩ ⟨by first | exact Nat.le_of_ble_eq_true rfl | exact Nat.zero_le _, by first | exact Nat.le_of_ble_eq_true rfl | exact Nat.zero_le _⟩ dX12_bodyFrom_6 (fun r6503 hr6503 => ?_)
  obtain rfl := hr6503
  refine lv_if_ne (tgt := 22) hx hb dX12_bodyFrom_9 (by decide) (fun _ => ?_) (fun c9 => absurd c9 (by decide))
  refine lv_aload_n hx hb dX12_bodyFrom_22 rfl (lv_at hl 1 rfl) ?_
  refine lv_iload hx hb dX12_bodyFrom_23 (lv_at hl 0 rfl) ?_
  refine lv_iload_n hx hb dX12_bodyFrom_25 rfl (lv_at hl 3 rfl) ?_
  refine lv_iload_n hx hb dX12_bodyFrom_26 rfl (lv_at hl 4 rfl) ?_
  refine iV (wr := []) hC hK hl hP hD hS hA (m_body03 l G h0 xx nw nk mhasKept nt mtaped nr mrowMany mroundOf mroundFrom mouts nm mfromHour mtoHour ns mfrom mto msort misFault mdeep mcoded mlines nl nc nF np ntr nb mbestCost nso nsi nit nsh nsf nss nrc jr jd mnumber mwhose msize misParted fnrc (by omega) (by omega)) si_X12_363 [0, 1] [] rfl rfl (by decide) rfl (by decide) (by decide) rfl rfl rfl rfl rfl (Nat.le_of_ble_eq_true rfl) ⟨Nat.le_of_ble_eq_true rfl, Nat.le_of_ble_eq_true rfl⟩ ⟨Nat.le_of_ble_eq_true rfl, Nat.le_of_ble_eq_true rfl⟩ dX12_bodyFrom_27 (fun r6505 u6506 H locs hr6505 hP hD hS => ?_)
  obtain ⟨jr16507, ip16508, gtrc6509⟩ := u6506
  try dsimp only at hr6505
  have hP : va_P G.1 vwCl [(h0, .inr (12, [.ref nw, .ref nk, .int mhasKept, .ref nt, .int mtaped, .ref nr, .int mrowMany, .int mroundOf, .int mroundFrom, .int mouts, .ref nm, .int mfromHour, .int mtoHour, .ref ns, .int mfrom, .int mto, .int msort, .int misFault, .int mdeep, .int mcoded, .int mlines, .ref nl, .ref nc, .ref nF, .ref np, .ref ntr, .ref nb, .int mbestCost, .ref nso, .ref nsi, .ref nit, .ref nsh, .ref nsf, .ref nss, .ref nrc, .int (nI jr16507), .int (nI jd), .int mnumber, .int mwhose, .int msize, .int ip16508])), (nrc, .inl (G.2.1, 30, .inl gtrc6509))] H := hP
  have hD : va_D A [(h0, .inr (12, [.ref nw, .ref nk, .int mhasKept, .ref nt, .int mtaped, .ref nr, .int mrowMany, .int mroundOf, .int mroundFrom, .int mouts, .ref nm, .int mfromHour, .int mtoHour, .ref ns, .int mfrom, .int mto, .int msort, .int misFault, .int mdeep, .int mcoded, .int mlines, .ref nl, .ref nc, .ref nF, .ref np, .ref ntr, .ref nb, .int mbestCost, .ref nso, .ref nsi, .ref nit, .ref nsh, .ref nsf, .ref nss, .ref nrc, .int (nI jr16507), .int (nI jd), .int mnumber, .int mwhose, .int msize, .int ip16508])), (nrc, .inl (G.2.1, 30, .inl gtrc6509))] := hD
  obtain ⟨hr6505, w6510⟩ := hr6505
  exact RI (v := r6505) hC hP hD hS [0, 1] (jr16507, ip16508, gtrc6509) rfl rfl (by decide) (⟨trivial, by omega⟩) rfl dX12_bodyFrom_30
set_option maxHeartbeats 4000000 in
set_option maxRecDepth 100000 in
theorem m_from13 (l : Launch) (G : GG) (h0 : Nat) (xx : Int32) (nw : Nat) (nk : Nat) (mhasKept : Int32) (nt : Nat) (mtaped : Int32) (nr : Nat) (mrowMany : Int32) (mroundOf : Int32) (mroundFrom : Int32) (mouts : Int32) (nm : Nat) (mfromHour : Int32) (mtoHour : Int32) (ns : Nat) (mfrom : Int32) (mto : Int32) (msort : Int32) (misFault : Int32) (mdeep : Int32) (mcoded : Int32) (mlines : Int32) (nl : Nat) (nc : Nat) (nF : Nat) (np : Nat) (ntr : Nat) (nb : Nat) (mbestCost : Int32) (nso : Nat) (nsi : Nat) (nit : Nat) (nsh : Nat) (nsf : Nat) (nss : Nat) (nrc : Nat) (jr : Nat) (jd : Nat) (mnumber : Int32) (mwhose : Int32) (msize : Int32) (misParted : Int32) (fnrc : Nat → Int32) (hjr : jr ≤ 30) (hjd : jd < 7) : MI l G yX12_bodyFrom cX12_bodyFrom 5 (some .int) 42 0 0 [.ref h0, .int 1, .int 3, .int xx] [(h0, .inr (12, [.ref nw, .ref nk, .int mhasKept, .ref nt, .int mtaped, .ref nr, .int mrowMany, .int mroundOf, .int mroundFrom, .int mouts, .ref nm, .int mfromHour, .int mtoHour, .ref ns, .int mfrom, .int mto, .int msort, .int misFault, .int mdeep, .int mcoded, .int mlines, .ref nl, .ref nc, .ref nF, .ref np, .ref ntr, .ref nb, .int mbestCost, .ref nso, .ref nsi, .ref nit, .ref nsh, .ref nsf, .ref nss, .ref nrc, .int (nI jr), .int (nI jd), .int mnumber, .int mwhose, .int msize, .int misParted])), (nrc, .inl (G.2.1, 30, .inl fnrc))] (fun (r : Int32) (u : Nat × Int32 × (Nat → Int32)) => (True) ∧ (u.1 ≤ 30)) (fun u : Nat × Int32 × (Nat → Int32) => [(h0, .inr (12, [.ref nw, .ref nk, .int mhasKept, .ref nt, .int mtaped, .ref nr, .int mrowMany, .int mroundOf, .int mroundFrom, .int mouts, .ref nm, .int mfromHour, .int mtoHour, .ref ns, .int mfrom, .int mto, .int msort, .int misFault, .int mdeep, .int mcoded, .int mlines, .ref nl, .ref nc, .ref nF, .ref np, .ref ntr, .ref nb, .int mbestCost, .ref nso, .ref nsi, .ref nit, .ref nsh, .ref nsf, .ref nss, .ref nrc, .int (nI u.1), .int (nI jd), .int mnumber, .int mwhose, .int msize, .int u.2.1])), (nrc, .inl (G.2.1, 30, .inl u.2.2))]) := by
  refine MI.start (by decide +kernel) (Nat.le_of_ble_eq_true rfl) ?_
  intro p e s m below meth c A ls hC hK hP hD hS hA hl
  have hl : lv_has ls 5 [(0, .ref h0), (1, .int 1), (2, .int 3), (3, .int xx)] := hl
  obtain ⟨hx, hb, hr, hml, hB, hown, hlocks, hnm⟩ := id hC
  refine lv_iload_n hx hb dX12_bodyFrom_0 rfl (lv_at hl 1 rfl) ?_
  refine lv_istore (lv' := [(4, .int 1), (0, .ref h0), (1, .int 1), (2, .int 3), (3, .int xx)]) hx hb dX12_bodyFrom_1 hl (by decide) rfl (fun ls hl => ?_)
  refine lv_iload hx hb dX12_bodyFrom_3 (lv_at hl 0 rfl) ?_
  refine lv_iload_n hx hb dX12_bodyFrom_5 rfl (lv_at hl 3 rfl) ?_
  refine pS hC hK hl (m_hasOwn13 l G) si_X12_360 rfl rfl (Nat.le_of_ble_eq_true rfl) ⟨Nat.le_of_ble_eq_true rfl, Nat.le_of_ble_eq_true rfl⟩ ⟨by first | exact Nat.le_of_ble_eq_true rfl | exact Nat.zero_le _, by first | exact Nat.le_of_ble_eq_true rfl | exact Nat.zero_le _⟩ dX12_bodyFrom_6 (fun r6511 hr6511 => ?_)
  obtain rfl := hr6511
  refine lv_if_ne (tgt := 22) hx hb dX12_bodyFrom_9 (by decide) (fun c9 => absurd (by decide) c9) (fun _ => ?_)
  refine lv_iload hx hb dX12_bodyFrom_12 (lv_at hl 0 rfl) ?_
  refine pS hC hK hl (m_above1 l G) si_X12_348 rfl rfl (Nat.le_of_ble_eq_true rfl) ⟨Nat.le_of_ble_eq_true rfl, Nat.le_of_ble_eq_true rfl⟩ ⟨by first | exact Nat.le_of_ble_eq_true rfl | exact Nat.zero_le _, by first | exact Nat.le_of_ble_eq_true rfl | exact Nat.zero_le _⟩ dX12_bodyFrom_14 (fun r6513 hr6513 => ?_)
  obtain rfl := hr6513
  refine lv_istore (lv' := [(4, .int 0), (0, .ref h0), (1, .int 1), (2, .int 3), (3, .int xx)]) hx hb dX12_bodyFrom_17 hl (by decide) rfl (fun ls hl => ?_)
  refine lv_goto (tgt := 3) hx hb dX12_bodyFrom_19 (by decide) ?_
  refine lv_iload hx hb dX12_bodyFrom_3 (lv_at hl 0 rfl) ?_
  refine lv_iload_n hx hb dX12_bodyFrom_5 rfl (lv_at hl 3 rfl) ?_
  refine pS hC hK hl (m_hasOwn03 l G) si_X12_360 rfl rfl (Nat.le_of_ble_eq_true rfl) ⟨Nat.le_of_ble_eq_true rfl, Nat.le_of_ble_eq_true rfl⟩ ⟨by first | exact Nat.le_of_ble_eq_true rfl | exact Nat.zero_le _, by first | exact Nat.le_of_ble_eq_true rfl | exact Nat.zero_le _⟩ dX12_bodyFrom_6 (fun r6515 hr6515 => ?_)
  obtain rfl := hr6515
  refine lv_if_ne (tgt := 22) hx hb dX12_bodyFrom_9 (by decide) (fun _ => ?_) (fun c9 => absurd c9 (by decide))
  refine lv_aload_n hx hb dX12_bodyFrom_22 rfl (lv_at hl 1 rfl) ?_
  refine lv_iload hx hb dX12_bodyFrom_23 (lv_at hl 0 rfl) ?_
  refine lv_iload_n hx hb dX12_bodyFrom_25 rfl (lv_at hl 3 rfl) ?_
  refine lv_iload_n hx hb dX12_bodyFrom_26 rfl (lv_at hl 4 rfl) ?_
  refine iV (wr := []) hC hK hl hP hD hS hA (m_body03 l G h0 xx nw nk mhasKept nt mtaped nr mrowMany mroundOf mroundFrom mouts nm mfromHour mtoHour ns mfrom mto msort misFault mdeep mcoded mlines nl nc nF np ntr nb mbestCost nso nsi nit nsh nsf nss nrc jr jd mnumber mwhose msize misParted fnrc (by omega) (by omega)) si_X12_363 [0, 1] [] rfl rfl (by decide) rfl (by decide) (by decide) rfl rfl rfl rfl rfl (Nat.le_of_ble_eq_true rfl) ⟨Nat.le_of_ble_eq_true rfl, Nat.le_of_ble_eq_true rfl⟩ ⟨Nat.le_of_ble_eq_true rfl, Nat.le_of_ble_eq_true rfl⟩ dX12_bodyFrom_27 (fun r6517 u6518 H locs hr6517 hP hD hS => ?_)
  obtain ⟨jr16519, ip16520, gtrc6521⟩ := u6518
  try dsimp only at hr6517
  have hP : va_P G.1 vwCl [(h0, .inr (12, [.ref nw, .ref nk, .int mhasKept, .ref nt, .int mtaped, .ref nr, .int mrowMany, .int mroundOf, .int mroundFrom, .int mouts, .ref nm, .int mfromHour, .int mtoHour, .ref ns, .int mfrom, .int mto, .int msort, .int misFault, .int mdeep, .int mcoded, .int mlines, .ref nl, .ref nc, .ref nF, .ref np, .ref ntr, .ref nb, .int mbestCost, .ref nso, .ref nsi, .ref nit, .ref nsh, .ref nsf, .ref nss, .ref nrc, .int (nI jr16519), .int (nI jd), .int mnumber, .int mwhose, .int msize, .int ip16520])), (nrc, .inl (G.2.1, 30, .inl gtrc6521))] H := hP
  have hD : va_D A [(h0, .inr (12, [.ref nw, .ref nk, .int mhasKept, .ref nt, .int mtaped, .ref nr, .int mrowMany, .int mroundOf, .int mroundFrom, .int mouts, .ref nm, .int mfromHour, .int mtoHour, .ref ns, .int mfrom, .int mto, .int msort, .int misFault, .int mdeep, .int mcoded, .int mlines, .ref nl, .ref nc, .ref nF, .ref np, .ref ntr, .ref nb, .int mbestCost, .ref nso, .ref nsi, .ref nit, .ref nsh, .ref nsf, .ref nss, .ref nrc, .int (nI jr16519), .int (nI jd), .int mnumber, .int mwhose, .int msize, .int ip16520])), (nrc, .inl (G.2.1, 30, .inl gtrc6521))] := hD
  obtain ⟨hr6517, w6522⟩ := hr6517
  exact RI (v := r6517) hC hP hD hS [0, 1] (jr16519, ip16520, gtrc6521) rfl rfl (by decide) (⟨trivial, by omega⟩) rfl dX12_bodyFrom_30
set_option maxHeartbeats 4000000 in
set_option maxRecDepth 100000 in
theorem m_body33 (l : Launch) (G : GG) (h0 : Nat) (xx : Int32) (nw : Nat) (nk : Nat) (mhasKept : Int32) (nt : Nat) (mtaped : Int32) (nr : Nat) (mrowMany : Int32) (mroundOf : Int32) (mroundFrom : Int32) (mouts : Int32) (nm : Nat) (mfromHour : Int32) (mtoHour : Int32) (ns : Nat) (mfrom : Int32) (mto : Int32) (msort : Int32) (misFault : Int32) (mdeep : Int32) (mcoded : Int32) (mlines : Int32) (nl : Nat) (nc : Nat) (nF : Nat) (np : Nat) (ntr : Nat) (nb : Nat) (mbestCost : Int32) (nso : Nat) (nsi : Nat) (nit : Nat) (nsh : Nat) (nsf : Nat) (nss : Nat) (nrc : Nat) (jr : Nat) (jd : Nat) (mnumber : Int32) (mwhose : Int32) (msize : Int32) (misParted : Int32) (fnrc : Nat → Int32) (hjr : jr ≤ 30) (hjd : jd < 7) : MI l G yX12_body cX12_body 6 (some .int) 43 0 0 [.ref h0, .int 3, .int 3, .int xx] [(h0, .inr (12, [.ref nw, .ref nk, .int mhasKept, .ref nt, .int mtaped, .ref nr, .int mrowMany, .int mroundOf, .int mroundFrom, .int mouts, .ref nm, .int mfromHour, .int mtoHour, .ref ns, .int mfrom, .int mto, .int msort, .int misFault, .int mdeep, .int mcoded, .int mlines, .ref nl, .ref nc, .ref nF, .ref np, .ref ntr, .ref nb, .int mbestCost, .ref nso, .ref nsi, .ref nit, .ref nsh, .ref nsf, .ref nss, .ref nrc, .int (nI jr), .int (nI jd), .int mnumber, .int mwhose, .int msize, .int misParted])), (nrc, .inl (G.2.1, 30, .inl fnrc))] (fun (r : Int32) (u : Nat × Int32 × (Nat → Int32)) => (True) ∧ (u.1 ≤ 30)) (fun u : Nat × Int32 × (Nat → Int32) => [(h0, .inr (12, [.ref nw, .ref nk, .int mhasKept, .ref nt, .int mtaped, .ref nr, .int mrowMany, .int mroundOf, .int mroundFrom, .int mouts, .ref nm, .int mfromHour, .int mtoHour, .ref ns, .int mfrom, .int mto, .int msort, .int misFault, .int mdeep, .int mcoded, .int mlines, .ref nl, .ref nc, .ref nF, .ref np, .ref ntr, .ref nb, .int mbestCost, .ref nso, .ref nsi, .ref nit, .ref nsh, .ref nsf, .ref nss, .ref nrc, .int (nI u.1), .int (nI jd), .int mnumber, .int mwhose, .int msize, .int u.2.1])), (nrc, .inl (G.2.1, 30, .inl u.2.2))]) := by
  refine MI.start (by decide +kernel) (Nat.le_of_ble_eq_true rfl) ?_
  intro p e s m below meth c A ls hC hK hP hD hS hA hl
  have hl : lv_has ls 6 [(0, .ref h0), (1, .int 3), (2, .int 3), (3, .int xx)] := hl
  obtain ⟨hx, hb, hr, hml, hB, hown, hlocks, hnm⟩ := id hC
  refine lv_iconst (v := 4) hx hb dX12_body_0 (by decide) ?_
  refine lv_iload_n hx hb dX12_body_1 rfl (lv_at hl 1 rfl) ?_
  refine lv_imul hx hb dX12_body_2 ?_
  refine eqi (x1 := 12) (by decide) ?_
  refine lv_iload_n hx hb dX12_body_3 rfl (lv_at hl 2 rfl) ?_
  refine lv_iadd hx hb dX12_body_4 ?_
  refine eqi (x1 := 15) (by decide) ?_
  refine lv_tableIn (tgt := 258) hx hb dX12_body_5 (by decide) (by decide) rfl (by decide) ?_
  refine lv_aload_n hx hb dX12_body_258 rfl (lv_at hl 0 rfl) ?_
  refine lv_bipush (v := 41) hx hb dX12_body_259 (by decide) ?_
  refine vV (wr := []) hC hK hl hP hD hS hA (m_began l G h0 41 nw nk mhasKept nt mtaped nr mrowMany mroundOf mroundFrom mouts nm mfromHour mtoHour ns mfrom mto msort misFault mdeep mcoded mlines nl nc nF np ntr nb mbestCost nso nsi nit nsh nsf nss nrc jr (nI jd) mnumber mwhose msize misParted fnrc (by omega)) si_X12_366 [0, 1] [] rfl rfl (by decide) rfl (by decide) (by decide) rfl rfl rfl rfl rfl (Nat.le_of_ble_eq_true rfl) ⟨Nat.le_of_ble_eq_true rfl, Nat.le_of_ble_eq_true rfl⟩ ⟨Nat.le_of_ble_eq_true rfl, Nat.le_of_ble_eq_true rfl⟩ dX12_body_261 (fun u6524 H locs hr6523 hP hD hS => ?_)
  obtain ⟨jr16525, gtrc6526⟩ := u6524
  try dsimp only at hr6523
  have hP : va_P G.1 vwCl [(h0, .inr (12, [.ref nw, .ref nk, .int mhasKept, .ref nt, .int mtaped, .ref nr, .int mrowMany, .int mroundOf, .int mroundFrom, .int mouts, .ref nm, .int mfromHour, .int mtoHour, .ref ns, .int mfrom, .int mto, .int msort, .int misFault, .int mdeep, .int mcoded, .int mlines, .ref nl, .ref nc, .ref nF, .ref np, .ref ntr, .ref nb, .int mbestCost, .ref nso, .ref nsi, .ref nit, .ref nsh, .ref nsf, .ref nss, .ref nrc, .int (nI jr16525), .int (nI jd), .int mnumber, .int mwhose, .int msize, .int misParted])), (nrc, .inl (G.2.1, 30, .inl gtrc6526))] H := hP
  have hD : va_D A [(h0, .inr (12, [.ref nw, .ref nk, .int mhasKept, .ref nt, .int mtaped, .ref nr, .int mrowMany, .int mroundOf, .int mroundFrom, .int mouts, .ref nm, .int mfromHour, .int mtoHour, .ref ns, .int mfrom, .int mto, .int msort, .int misFault, .int mdeep, .int mcoded, .int mlines, .ref nl, .ref nc, .ref nF, .ref np, .ref ntr, .ref nb, .int mbestCost, .ref nso, .ref nsi, .ref nit, .ref nsh, .ref nsf, .ref nss, .ref nrc, .int (nI jr16525), .int (nI jd), .int mnumber, .int mwhose, .int msize, .int misParted])), (nrc, .inl (G.2.1, 30, .inl gtrc6526))] := hD
  have w6527 := hr6523
  refine lv_aload_n hx hb dX12_body_264 rfl (lv_at hl 0 rfl) ?_
  refine lv_iconst (v := 1) hx hb dX12_body_265 (by decide) ?_
  refine lv_iconst (v := 3) hx hb dX12_body_266 (by decide) ?_
  refine lv_iload_n hx hb dX12_body_267 rfl (lv_at hl 3 rfl) ?_
  refine lv_iconst (v := 2) hx hb dX12_body_268 (by decide) ?_
  refine lv_iadd hx hb dX12_body_269 ?_
  refine iV (wr := []) hC hK hl hP hD hS hA (m_from13 l G h0 (xx + 2) nw nk mhasKept nt mtaped nr mrowMany mroundOf mroundFrom mouts nm mfromHour mtoHour ns mfrom mto msort misFault mdeep mcoded mlines nl nc nF np ntr nb mbestCost nso nsi nit nsh nsf nss nrc jr16525 jd mnumber mwhose msize misParted gtrc6526 (by omega) (by omega)) si_X12_357 [0, 1] [] rfl rfl (by decide) rfl (by decide) (by decide) rfl rfl rfl rfl rfl (Nat.le_of_ble_eq_true rfl) ⟨Nat.le_of_ble_eq_true rfl, Nat.le_of_ble_eq_true rfl⟩ ⟨Nat.le_of_ble_eq_true rfl, Nat.le_of_ble_eq_true rfl⟩ dX12_body_270 (fun r6528 u6529 H locs hr6528 hP hD hS => ?_)
  obtain ⟨jr16530, ip16531, gtrc6532⟩ := u6529
  try dsimp only at hr6528
  have hP : va_P G.1 vwCl [(h0, .inr (12, [.ref nw, .ref nk, .int mhasKept, .ref nt, .int mtaped, .ref nr, .int mrowMany, .int mroundOf, .int mroundFrom, .int mouts, .ref nm, .int mfromHour, .int mtoHour, .ref ns, .int mfrom, .int mto, .int msort, .int misFault, .int mdeep, .int mcoded, .int mlines, .ref nl, .ref nc, .ref nF, .ref np, .ref ntr, .ref nb, .int mbestCost, .ref nso, .ref nsi, .ref nit, .ref nsh, .ref nsf, .ref nss, .ref nrc, .int (nI jr16530), .int (nI jd), .int mnumber, .int mwhose, .int msize, .int ip16531])), (nrc, .inl (G.2.1, 30, .inl gtrc6532))] H := hP
  have hD : va_D A [(h0, .inr (12, [.ref nw, .ref nk, .int mhasKept, .ref nt, .int mtaped, .ref nr, .int mrowMany, .int mroundOf, .int mroundFrom, .int mouts, .ref nm, .int mfromHour, .int mtoHour, .ref ns, .int mfrom, .int mto, .int msort, .int misFault, .int mdeep, .int mcoded, .int mlines, .ref nl, .ref nc, .ref nF, .ref np, .ref ntr, .ref nb, .int mbestCost, .ref nso, .ref nsi, .ref nit, .ref nsh, .ref nsf, .ref nss, .ref nrc, .int (nI jr16530), .int (nI jd), .int mnumber, .int mwhose, .int msize, .int ip16531])), (nrc, .inl (G.2.1, 30, .inl gtrc6532))] := hD
  obtain ⟨hr6528, w6533⟩ := hr6528
  exact RI (v := r6528) hC hP hD hS [0, 1] (jr16530, ip16531, gtrc6532) rfl rfl (by decide) (⟨trivial, by omega⟩) rfl dX12_body_273
set_option maxHeartbeats 4000000 in
set_option maxRecDepth 100000 in
theorem m_from33 (l : Launch) (G : GG) (h0 : Nat) (xx : Int32) (nw : Nat) (nk : Nat) (mhasKept : Int32) (nt : Nat) (mtaped : Int32) (nr : Nat) (mrowMany : Int32) (mroundOf : Int32) (mroundFrom : Int32) (mouts : Int32) (nm : Nat) (mfromHour : Int32) (mtoHour : Int32) (ns : Nat) (mfrom : Int32) (mto : Int32) (msort : Int32) (misFault : Int32) (mdeep : Int32) (mcoded : Int32) (mlines : Int32) (nl : Nat) (nc : Nat) (nF : Nat) (np : Nat) (ntr : Nat) (nb : Nat) (mbestCost : Int32) (nso : Nat) (nsi : Nat) (nit : Nat) (nsh : Nat) (nsf : Nat) (nss : Nat) (nrc : Nat) (jr : Nat) (jd : Nat) (mnumber : Int32) (mwhose : Int32) (msize : Int32) (misParted : Int32) (fnrc : Nat → Int32) (hjr : jr ≤ 30) (hjd : jd < 7) : MI l G yX12_bodyFrom cX12_bodyFrom 5 (some .int) 44 0 0 [.ref h0, .int 3, .int 3, .int xx] [(h0, .inr (12, [.ref nw, .ref nk, .int mhasKept, .ref nt, .int mtaped, .ref nr, .int mrowMany, .int mroundOf, .int mroundFrom, .int mouts, .ref nm, .int mfromHour, .int mtoHour, .ref ns, .int mfrom, .int mto, .int msort, .int misFault, .int mdeep, .int mcoded, .int mlines, .ref nl, .ref nc, .ref nF, .ref np, .ref ntr, .ref nb, .int mbestCost, .ref nso, .ref nsi, .ref nit, .ref nsh, .ref nsf, .ref nss, .ref nrc, .int (nI jr), .int (nI jd), .int mnumber, .int mwhose, .int msize, .int misParted])), (nrc, .inl (G.2.1, 30, .inl fnrc))] (fun (r : Int32) (u : Nat × Int32 × (Nat → Int32)) => (True) ∧ (u.1 ≤ 30)) (fun u : Nat × Int32 × (Nat → Int32) => [(h0, .inr (12, [.ref nw, .ref nk, .int mhasKept, .ref nt, .int mtaped, .ref nr, .int mrowMany, .int mroundOf, .int mroundFrom, .int mouts, .ref nm, .int mfromHour, .int mtoHour, .ref ns, .int mfrom, .int mto, .int msort, .int misFault, .int mdeep, .int mcoded, .int mlines, .ref nl, .ref nc, .ref nF, .ref np, .ref ntr, .ref nb, .int mbestCost, .ref nso, .ref nsi, .ref nit, .ref nsh, .ref nsf, .ref nss, .ref nrc, .int (nI u.1), .int (nI jd), .int mnumber, .int mwhose, .int msize, .int u.2.1])), (nrc, .inl (G.2.1, 30, .inl u.2.2))]) := by
  refine MI.start (by decide +kernel) (Nat.le_of_ble_eq_true rfl) ?_
  intro p e s m below meth c A ls hC hK hP hD hS hA hl
  have hl : lv_has ls 5 [(0, .ref h0), (1, .int 3), (2, .int 3), (3, .int xx)] := hl
  obtain ⟨hx, hb, hr, hml, hB, hown, hlocks, hnm⟩ := id hC
  refine lv_iload_n hx hb dX12_bodyFrom_0 rfl (lv_at hl 1 rfl) ?_
  refine lv_istore (lv' := [(4, .int 3), (0, .ref h0), (1, .int 3), (2, .int 3), (3, .int xx)]) hx hb dX12_bodyFrom_1 hl (by decide) rfl (fun ls hl => ?_)
  refine lv_iload hx hb dX12_bodyFrom_3 (lv_at hl 0 rfl) ?_
  refine lv_iload_n hx hb dX12_bodyFrom_5 rfl (lv_at hl 3 rfl) ?_
  refine pS hC hK hl (m_hasOwn33 l G) si_X12_360 rfl rfl (Nat.le_of_ble_eq_true rfl) ⟨Nat.le_of_ble_eq_true rfl, Nat.le_of_ble_eq_true rfl⟩ ⟨by first | exact Nat.le_of_ble_eq_true rfl | exact Nat.zero_le _, by first | exact Nat.le_of_ble_eq_true rfl | exact Nat.zero_le _⟩ dX12_bodyFrom_6 (fun r6534 hr6534 => ?_)
  obtain rfl := hr6534
  refine lv_if_ne (tgt := 22) hx hb dX12_bodyFrom_9 (by decide) (fun _ => ?_) (fun c9 => absurd c9 (by decide))
  refine lv_aload_n hx hb dX12_bodyFrom_22 rfl (lv_at hl 1 rfl) ?_
  refine lv_iload hx hb dX12_bodyFrom_23 (lv_at hl 0 rfl) ?_
  refine lv_iload_n hx hb dX12_bodyFrom_25 rfl (lv_at hl 3 rfl) ?_
  refine lv_iload_n hx hb dX12_bodyFrom_26 rfl (lv_at hl 4 rfl) ?_
  refine iV (wr := []) hC hK hl hP hD hS hA (m_body33 l G h0 xx nw nk mhasKept nt mtaped nr mrowMany mroundOf mroundFrom mouts nm mfromHour mtoHour ns mfrom mto msort misFault mdeep mcoded mlines nl nc nF np ntr nb mbestCost nso nsi nit nsh nsf nss nrc jr jd mnumber mwhose msize misParted fnrc (by omega) (by omega)) si_X12_363 [0, 1] [] rfl rfl (by decide) rfl (by decide) (by decide) rfl rfl rfl rfl rfl (Nat.le_of_ble_eq_true rfl) ⟨Nat.le_of_ble_eq_true rfl, Nat.le_of_ble_eq_true rfl⟩ ⟨Nat.le_of_ble_eq_true rfl, Nat.le_of_ble_eq_true rfl⟩ dX12_bodyFrom_27 (fun r6536 u6537 H locs hr6536 hP hD hS => ?_)
  obtain ⟨jr16538, ip16539, gtrc6540⟩ := u6537
  try dsimp only at hr6536
  have hP : va_P G.1 vwCl [(h0, .inr (12, [.ref nw, .ref nk, .int mhasKept, .ref nt, .int mtaped, .ref nr, .int mrowMany, .int mroundOf, .int mroundFrom, .int mouts, .ref nm, .int mfromHour, .int mtoHour, .ref ns, .int mfrom, .int mto, .int msort, .int misFault, .int mdeep, .int mcoded, .int mlines, .ref nl, .ref nc, .ref nF, .ref np, .ref ntr, .ref nb, .int mbestCost, .ref nso, .ref nsi, .ref nit, .ref nsh, .ref nsf, .ref nss, .ref nrc, .int (nI jr16538), .int (nI jd), .int mnumber, .int mwhose, .int msize, .int ip16539])), (nrc, .inl (G.2.1, 30, .inl gtrc6540))] H := hP
  have hD : va_D A [(h0, .inr (12, [.ref nw, .ref nk, .int mhasKept, .ref nt, .int mtaped, .ref nr, .int mrowMany, .int mroundOf, .int mroundFrom, .int mouts, .ref nm, .int mfromHour, .int mtoHour, .ref ns, .int mfrom, .int mto, .int msort, .int misFault, .int mdeep, .int mcoded, .int mlines, .ref nl, .ref nc, .ref nF, .ref np, .ref ntr, .ref nb, .int mbestCost, .ref nso, .ref nsi, .ref nit, .ref nsh, .ref nsf, .ref nss, .ref nrc, .int (nI jr16538), .int (nI jd), .int mnumber, .int mwhose, .int msize, .int ip16539])), (nrc, .inl (G.2.1, 30, .inl gtrc6540))] := hD
  obtain ⟨hr6536, w6541⟩ := hr6536
  exact RI (v := r6536) hC hP hD hS [0, 1] (jr16538, ip16539, gtrc6540) rfl rfl (by decide) (⟨trivial, by omega⟩) rfl dX12_bodyFrom_30
set_option maxHeartbeats 4000000 in
set_option maxRecDepth 100000 in
theorem m_body63 (l : Launch) (G : GG) (h0 : Nat) (xx : Int32) (nw : Nat) (nk : Nat) (mhasKept : Int32) (nt : Nat) (mtaped : Int32) (nr : Nat) (mrowMany : Int32) (mroundOf : Int32) (mroundFrom : Int32) (mouts : Int32) (nm : Nat) (mfromHour : Int32) (mtoHour : Int32) (ns : Nat) (mfrom : Int32) (mto : Int32) (msort : Int32) (misFault : Int32) (mdeep : Int32) (mcoded : Int32) (mlines : Int32) (nl : Nat) (nc : Nat) (nF : Nat) (np : Nat) (ntr : Nat) (nb : Nat) (mbestCost : Int32) (nso : Nat) (nsi : Nat) (nit : Nat) (nsh : Nat) (nsf : Nat) (nss : Nat) (nrc : Nat) (jr : Nat) (jd : Nat) (mnumber : Int32) (mwhose : Int32) (msize : Int32) (misParted : Int32) (fnrc : Nat → Int32) (hjr : jr ≤ 30) (hjd : jd < 7) : MI l G yX12_body cX12_body 6 (some .int) 45 0 0 [.ref h0, .int 6, .int 3, .int xx] [(h0, .inr (12, [.ref nw, .ref nk, .int mhasKept, .ref nt, .int mtaped, .ref nr, .int mrowMany, .int mroundOf, .int mroundFrom, .int mouts, .ref nm, .int mfromHour, .int mtoHour, .ref ns, .int mfrom, .int mto, .int msort, .int misFault, .int mdeep, .int mcoded, .int mlines, .ref nl, .ref nc, .ref nF, .ref np, .ref ntr, .ref nb, .int mbestCost, .ref nso, .ref nsi, .ref nit, .ref nsh, .ref nsf, .ref nss, .ref nrc, .int (nI jr), .int (nI jd), .int mnumber, .int mwhose, .int msize, .int misParted])), (nrc, .inl (G.2.1, 30, .inl fnrc))] (fun (r : Int32) (u : Nat × Int32 × (Nat → Int32)) => (True) ∧ (u.1 ≤ 30)) (fun u : Nat × Int32 × (Nat → Int32) => [(h0, .inr (12, [.ref nw, .ref nk, .int mhasKept, .ref nt, .int mtaped, .ref nr, .int mrowMany, .int mroundOf, .int mroundFrom, .int mouts, .ref nm, .int mfromHour, .int mtoHour, .ref ns, .int mfrom, .int mto, .int msort, .int misFault, .int mdeep, .int mcoded, .int mlines, .ref nl, .ref nc, .ref nF, .ref np, .ref ntr, .ref nb, .int mbestCost, .ref nso, .ref nsi, .ref nit, .ref nsh, .ref nsf, .ref nss, .ref nrc, .int (nI u.1), .int (nI jd), .int mnumber, .int mwhose, .int msize, .int u.2.1])), (nrc, .inl (G.2.1, 30, .inl u.2.2))]) := by
  refine MI.start (by decide +kernel) (Nat.le_of_ble_eq_true rfl) ?_
  intro p e s m below meth c A ls hC hK hP hD hS hA hl
  have hl : lv_has ls 6 [(0, .ref h0), (1, .int 6), (2, .int 3), (3, .int xx)] := hl
  obtain ⟨hx, hb, hr, hml, hB, hown, hlocks, hnm⟩ := id hC
  refine lv_iconst (v := 4) hx hb dX12_body_0 (by decide) ?_
  refine lv_iload_n hx hb dX12_body_1 rfl (lv_at hl 1 rfl) ?_
  refine lv_imul hx hb dX12_body_2 ?_
  refine eqi (x1 := 24) (by decide) ?_
  refine lv_iload_n hx hb dX12_body_3 rfl (lv_at hl 2 rfl) ?_
  refine lv_iadd hx hb dX12_body_4 ?_
  refine eqi (x1 := 27) (by decide) ?_
  refine lv_tableOut (tgt := 353) hx hb dX12_body_5 (by decide) (by decide) ?_
  refine lv_aload_n hx hb dX12_body_353 rfl (lv_at hl 0 rfl) ?_
  refine lv_bipush (v := 70) hx hb dX12_body_354 (by decide) ?_
  refine vV (wr := []) hC hK hl hP hD hS hA (m_began l G h0 70 nw nk mhasKept nt mtaped nr mrowMany mroundOf mroundFrom mouts nm mfromHour mtoHour ns mfrom mto msort misFault mdeep mcoded mlines nl nc nF np ntr nb mbestCost nso nsi nit nsh nsf nss nrc jr (nI jd) mnumber mwhose msize misParted fnrc (by omega)) si_X12_366 [0, 1] [] rfl rfl (by decide) rfl (by decide) (by decide) rfl rfl rfl rfl rfl (Nat.le_of_ble_eq_true rfl) ⟨Nat.le_of_ble_eq_true rfl, Nat.le_of_ble_eq_true rfl⟩ ⟨Nat.le_of_ble_eq_true rfl, Nat.le_of_ble_eq_true rfl⟩ dX12_body_356 (fun u6543 H locs hr6542 hP hD hS => ?_)
  obtain ⟨jr16544, gtrc6545⟩ := u6543
  try dsimp only at hr6542
  have hP : va_P G.1 vwCl [(h0, .inr (12, [.ref nw, .ref nk, .int mhasKept, .ref nt, .int mtaped, .ref nr, .int mrowMany, .int mroundOf, .int mroundFrom, .int mouts, .ref nm, .int mfromHour, .int mtoHour, .ref ns, .int mfrom, .int mto, .int msort, .int misFault, .int mdeep, .int mcoded, .int mlines, .ref nl, .ref nc, .ref nF, .ref np, .ref ntr, .ref nb, .int mbestCost, .ref nso, .ref nsi, .ref nit, .ref nsh, .ref nsf, .ref nss, .ref nrc, .int (nI jr16544), .int (nI jd), .int mnumber, .int mwhose, .int msize, .int misParted])), (nrc, .inl (G.2.1, 30, .inl gtrc6545))] H := hP
  have hD : va_D A [(h0, .inr (12, [.ref nw, .ref nk, .int mhasKept, .ref nt, .int mtaped, .ref nr, .int mrowMany, .int mroundOf, .int mroundFrom, .int mouts, .ref nm, .int mfromHour, .int mtoHour, .ref ns, .int mfrom, .int mto, .int msort, .int misFault, .int mdeep, .int mcoded, .int mlines, .ref nl, .ref nc, .ref nF, .ref np, .ref ntr, .ref nb, .int mbestCost, .ref nso, .ref nsi, .ref nit, .ref nsh, .ref nsf, .ref nss, .ref nrc, .int (nI jr16544), .int (nI jd), .int mnumber, .int mwhose, .int msize, .int misParted])), (nrc, .inl (G.2.1, 30, .inl gtrc6545))] := hD
  have w6546 := hr6542
  refine lv_aload_n hx hb dX12_body_359 rfl (lv_at hl 0 rfl) ?_
  refine lv_iconst (v := 0) hx hb dX12_body_360 (by decide) ?_
  refine lv_iconst (v := 3) hx hb dX12_body_361 (by decide) ?_
  refine lv_iload_n hx hb dX12_body_362 rfl (lv_at hl 3 rfl) ?_
  refine iV (wr := []) hC hK hl hP hD hS hA (m_from03 l G h0 xx nw nk mhasKept nt mtaped nr mrowMany mroundOf mroundFrom mouts nm mfromHour mtoHour ns mfrom mto msort misFault mdeep mcoded mlines nl nc nF np ntr nb mbestCost nso nsi nit nsh nsf nss nrc jr16544 jd mnumber mwhose msize misParted gtrc6545 (by omega) (by omega)) si_X12_357 [0, 1] [] rfl rfl (by decide) rfl (by decide) (by decide) rfl rfl rfl rfl rfl (Nat.le_of_ble_eq_true rfl) ⟨Nat.le_of_ble_eq_true rfl, Nat.le_of_ble_eq_true rfl⟩ ⟨Nat.le_of_ble_eq_true rfl, Nat.le_of_ble_eq_true rfl⟩ dX12_body_363 (fun r6547 u6548 H locs hr6547 hP hD hS => ?_)
  obtain ⟨jr16549, ip16550, gtrc6551⟩ := u6548
  try dsimp only at hr6547
  have hP : va_P G.1 vwCl [(h0, .inr (12, [.ref nw, .ref nk, .int mhasKept, .ref nt, .int mtaped, .ref nr, .int mrowMany, .int mroundOf, .int mroundFrom, .int mouts, .ref nm, .int mfromHour, .int mtoHour, .ref ns, .int mfrom, .int mto, .int msort, .int misFault, .int mdeep, .int mcoded, .int mlines, .ref nl, .ref nc, .ref nF, .ref np, .ref ntr, .ref nb, .int mbestCost, .ref nso, .ref nsi, .ref nit, .ref nsh, .ref nsf, .ref nss, .ref nrc, .int (nI jr16549), .int (nI jd), .int mnumber, .int mwhose, .int msize, .int ip16550])), (nrc, .inl (G.2.1, 30, .inl gtrc6551))] H := hP
  have hD : va_D A [(h0, .inr (12, [.ref nw, .ref nk, .int mhasKept, .ref nt, .int mtaped, .ref nr, .int mrowMany, .int mroundOf, .int mroundFrom, .int mouts, .ref nm, .int mfromHour, .int mtoHour, .ref ns, .int mfrom, .int mto, .int msort, .int misFault, .int mdeep, .int mcoded, .int mlines, .ref nl, .ref nc, .ref nF, .ref np, .ref ntr, .ref nb, .int mbestCost, .ref nso, .ref nsi, .ref nit, .ref nsh, .ref nsf, .ref nss, .ref nrc, .int (nI jr16549), .int (nI jd), .int mnumber, .int mwhose, .int msize, .int ip16550])), (nrc, .inl (G.2.1, 30, .inl gtrc6551))] := hD
  obtain ⟨hr6547, w6552⟩ := hr6547
  refine lv_istore (lv' := [(5, .int r6547), (0, .ref h0), (1, .int 6), (2, .int 3), (3, .int xx)]) hx hb dX12_body_366 hl (by decide) rfl (fun ls hl => ?_)
  refine lv_aload_n hx hb dX12_body_368 rfl (lv_at hl 1 rfl) ?_
  refine gf_X12_380 hC rfl hK hP 0 rfl rfl dX12_body_369 ?_
  refine lv_if_eq (tgt := 379) hx hb dX12_body_372 (by decide) (fun c_372_6553 => ?_) (fun c_372_6553 => ?_)
  · refine lv_iload hx hb dX12_body_379 (lv_at hl 0 rfl) ?_
    refine lv_aload_n hx hb dX12_body_381 rfl (lv_at hl 1 rfl) ?_
    refine lv_iconst (v := 0) hx hb dX12_body_382 (by decide) ?_
    refine lv_aload_n hx hb dX12_body_383 rfl (lv_at hl 1 rfl) ?_
    refine gf_X12_378 hC rfl hK hP 0 rfl rfl dX12_body_384 ?_
    refine iV (wr := []) hC hK hl hP hD hS hA (m_dealt0 l G h0 mnumber nw nk mhasKept nt mtaped nr mrowMany mroundOf mroundFrom mouts nm mfromHour mtoHour ns mfrom mto msort misFault mdeep mcoded mlines nl nc nF np ntr nb mbestCost nso nsi nit nsh nsf nss nrc jr16549 jd mnumber mwhose msize ip16550 gtrc6551 (by omega) (by omega)) si_X12_372 [0, 1] [] rfl rfl (by decide) rfl (by decide) (by decide) rfl rfl rfl rfl rfl (Nat.le_of_ble_eq_true rfl) ⟨Nat.le_of_ble_eq_true rfl, Nat.le_of_ble_eq_true rfl⟩ ⟨Nat.le_of_ble_eq_true rfl, Nat.le_of_ble_eq_true rfl⟩ dX12_body_387 (fun r6554 u6555 H locs hr6554 hP hD hS => ?_)
    obtain ⟨jr16556, ip16557, gtrc6558⟩ := u6555
    try dsimp only at hr6554
    have hP : va_P G.1 vwCl [(h0, .inr (12, [.ref nw, .ref nk, .int mhasKept, .ref nt, .int mtaped, .ref nr, .int mrowMany, .int mroundOf, .int mroundFrom, .int mouts, .ref nm, .int mfromHour, .int mtoHour, .ref ns, .int mfrom, .int mto, .int msort, .int misFault, .int mdeep, .int mcoded, .int mlines, .ref nl, .ref nc, .ref nF, .ref np, .ref ntr, .ref nb, .int mbestCost, .ref nso, .ref nsi, .ref nit, .ref nsh, .ref nsf, .ref nss, .ref nrc, .int (nI jr16556), .int (nI jd), .int mnumber, .int mwhose, .int msize, .int ip16557])), (nrc, .inl (G.2.1, 30, .inl gtrc6558))] H := hP
    have hD : va_D A [(h0, .inr (12, [.ref nw, .ref nk, .int mhasKept, .ref nt, .int mtaped, .ref nr, .int mrowMany, .int mroundOf, .int mroundFrom, .int mouts, .ref nm, .int mfromHour, .int mtoHour, .ref ns, .int mfrom, .int mto, .int msort, .int misFault, .int mdeep, .int mcoded, .int mlines, .ref nl, .ref nc, .ref nF, .ref np, .ref ntr, .ref nb, .int mbestCost, .ref nso, .ref nsi, .ref nit, .ref nsh, .ref nsf, .ref nss, .ref nrc, .int (nI jr16556), .int (nI jd), .int mnumber, .int mwhose, .int msize, .int ip16557])), (nrc, .inl (G.2.1, 30, .inl gtrc6558))] := hD
    obtain ⟨hr6554, w6559⟩ := hr6554
    refine lv_isub hx hb dX12_body_390 ?_
    exact RI (v := r6547 - r6554) hC hP hD hS [0, 1] (jr16556, ip16557, gtrc6558) rfl rfl (by decide) (⟨trivial, by omega⟩) rfl dX12_body_391
  · refine lv_iconst (v := 0) hx hb dX12_body_375 (by decide) ?_
    refine lv_goto (tgt := 391) hx hb dX12_body_376 (by decide) ?_
    exact RI (v := 0) hC hP hD hS [0, 1] (jr16549, ip16550, gtrc6551) rfl rfl (by decide) (⟨trivial, by omega⟩) rfl dX12_body_391
set_option maxHeartbeats 4000000 in
set_option maxRecDepth 100000 in
theorem m_from63 (l : Launch) (G : GG) (h0 : Nat) (xx : Int32) (nw : Nat) (nk : Nat) (mhasKept : Int32) (nt : Nat) (mtaped : Int32) (nr : Nat) (mrowMany : Int32) (mroundOf : Int32) (mroundFrom : Int32) (mouts : Int32) (nm : Nat) (mfromHour : Int32) (mtoHour : Int32) (ns : Nat) (mfrom : Int32) (mto : Int32) (msort : Int32) (misFault : Int32) (mdeep : Int32) (mcoded : Int32) (mlines : Int32) (nl : Nat) (nc : Nat) (nF : Nat) (np : Nat) (ntr : Nat) (nb : Nat) (mbestCost : Int32) (nso : Nat) (nsi : Nat) (nit : Nat) (nsh : Nat) (nsf : Nat) (nss : Nat) (nrc : Nat) (jr : Nat) (jd : Nat) (mnumber : Int32) (mwhose : Int32) (msize : Int32) (misParted : Int32) (fnrc : Nat → Int32) (hjr : jr ≤ 30) (hjd : jd < 7) : MI l G yX12_bodyFrom cX12_bodyFrom 5 (some .int) 46 0 0 [.ref h0, .int 6, .int 3, .int xx] [(h0, .inr (12, [.ref nw, .ref nk, .int mhasKept, .ref nt, .int mtaped, .ref nr, .int mrowMany, .int mroundOf, .int mroundFrom, .int mouts, .ref nm, .int mfromHour, .int mtoHour, .ref ns, .int mfrom, .int mto, .int msort, .int misFault, .int mdeep, .int mcoded, .int mlines, .ref nl, .ref nc, .ref nF, .ref np, .ref ntr, .ref nb, .int mbestCost, .ref nso, .ref nsi, .ref nit, .ref nsh, .ref nsf, .ref nss, .ref nrc, .int (nI jr), .int (nI jd), .int mnumber, .int mwhose, .int msize, .int misParted])), (nrc, .inl (G.2.1, 30, .inl fnrc))] (fun (r : Int32) (u : Nat × Int32 × (Nat → Int32)) => (True) ∧ (u.1 ≤ 30)) (fun u : Nat × Int32 × (Nat → Int32) => [(h0, .inr (12, [.ref nw, .ref nk, .int mhasKept, .ref nt, .int mtaped, .ref nr, .int mrowMany, .int mroundOf, .int mroundFrom, .int mouts, .ref nm, .int mfromHour, .int mtoHour, .ref ns, .int mfrom, .int mto, .int msort, .int misFault, .int mdeep, .int mcoded, .int mlines, .ref nl, .ref nc, .ref nF, .ref np, .ref ntr, .ref nb, .int mbestCost, .ref nso, .ref nsi, .ref nit, .ref nsh, .ref nsf, .ref nss, .ref nrc, .int (nI u.1), .int (nI jd), .int mnumber, .int mwhose, .int msize, .int u.2.1])), (nrc, .inl (G.2.1, 30, .inl u.2.2))]) := by
  refine MI.start (by decide +kernel) (Nat.le_of_ble_eq_true rfl) ?_
  intro p e s m below meth c A ls hC hK hP hD hS hA hl
  have hl : lv_has ls 5 [(0, .ref h0), (1, .int 6), (2, .int 3), (3, .int xx)] := hl
  obtain ⟨hx, hb, hr, hml, hB, hown, hlocks, hnm⟩ := id hC
  refine lv_iload_n hx hb dX12_bodyFrom_0 rfl (lv_at hl 1 rfl) ?_
  refine lv_istore (lv' := [(4, .int 6), (0, .ref h0), (1, .int 6), (2, .int 3), (3, .int xx)]) hx hb dX12_bodyFrom_1 hl (by decide) rfl (fun ls hl => ?_)
  refine lv_iload hx hb dX12_bodyFrom_3 (lv_at hl 0 rfl) ?_
  refine lv_iload_n hx hb dX12_bodyFrom_5 rfl (lv_at hl 3 rfl) ?_
  refine pS hC hK hl (m_hasOwn63 l G) si_X12_360 rfl rfl (Nat.le_of_ble_eq_true rfl) ⟨Nat.le_of_ble_eq_true rfl, Nat.le_of_ble_eq_true rfl⟩ ⟨by first | exact Nat.le_of_ble_eq_true rfl | exact Nat.zero_le _, by first | exact Nat.le_of_ble_eq_true rfl | exact Nat.zero_le _⟩ dX12_bodyFrom_6 (fun r6560 hr6560 => ?_)
  obtain rfl := hr6560
  refine lv_if_ne (tgt := 22) hx hb dX12_bodyFrom_9 (by decide) (fun _ => ?_) (fun c9 => absurd c9 (by decide))
  refine lv_aload_n hx hb dX12_bodyFrom_22 rfl (lv_at hl 1 rfl) ?_
  refine lv_iload hx hb dX12_bodyFrom_23 (lv_at hl 0 rfl) ?_
  refine lv_iload_n hx hb dX12_bodyFrom_25 rfl (lv_at hl 3 rfl) ?_
  refine lv_iload_n hx hb dX12_bodyFrom_26 rfl (lv_at hl 4 rfl) ?_
  refine iV (wr := []) hC hK hl hP hD hS hA (m_body63 l G h0 xx nw nk mhasKept nt mtaped nr mrowMany mroundOf mroundFrom mouts nm mfromHour mtoHour ns mfrom mto msort misFault mdeep mcoded mlines nl nc nF np ntr nb mbestCost nso nsi nit nsh nsf nss nrc jr jd mnumber mwhose msize misParted fnrc (by omega) (by omega)) si_X12_363 [0, 1] [] rfl rfl (by decide) rfl (by decide) (by decide) rfl rfl rfl rfl rfl (Nat.le_of_ble_eq_true rfl) ⟨Nat.le_of_ble_eq_true rfl, Nat.le_of_ble_eq_true rfl⟩ ⟨Nat.le_of_ble_eq_true rfl, Nat.le_of_ble_eq_true rfl⟩ dX12_bodyFrom_27 (fun r6562 u6563 H locs hr6562 hP hD hS => ?_)
  obtain ⟨jr16564, ip16565, gtrc6566⟩ := u6563
  try dsimp only at hr6562
  have hP : va_P G.1 vwCl [(h0, .inr (12, [.ref nw, .ref nk, .int mhasKept, .ref nt, .int mtaped, .ref nr, .int mrowMany, .int mroundOf, .int mroundFrom, .int mouts, .ref nm, .int mfromHour, .int mtoHour, .ref ns, .int mfrom, .int mto, .int msort, .int misFault, .int mdeep, .int mcoded, .int mlines, .ref nl, .ref nc, .ref nF, .ref np, .ref ntr, .ref nb, .int mbestCost, .ref nso, .ref nsi, .ref nit, .ref nsh, .ref nsf, .ref nss, .ref nrc, .int (nI jr16564), .int (nI jd), .int mnumber, .int mwhose, .int msize, .int ip16565])), (nrc, .inl (G.2.1, 30, .inl gtrc6566))] H := hP
  have hD : va_D A [(h0, .inr (12, [.ref nw, .ref nk, .int mhasKept, .ref nt, .int mtaped, .ref nr, .int mrowMany, .int mroundOf, .int mroundFrom, .int mouts, .ref nm, .int mfromHour, .int mtoHour, .ref ns, .int mfrom, .int mto, .int msort, .int misFault, .int mdeep, .int mcoded, .int mlines, .ref nl, .ref nc, .ref nF, .ref np, .ref ntr, .ref nb, .int mbestCost, .ref nso, .ref nsi, .ref nit, .ref nsh, .ref nsf, .ref nss, .ref nrc, .int (nI jr16564), .int (nI jd), .int mnumber, .int mwhose, .int msize, .int ip16565])), (nrc, .inl (G.2.1, 30, .inl gtrc6566))] := hD
  obtain ⟨hr6562, w6567⟩ := hr6562
  exact RI (v := r6562) hC hP hD hS [0, 1] (jr16564, ip16565, gtrc6566) rfl rfl (by decide) (⟨trivial, by omega⟩) rfl dX12_bodyFrom_30
set_option maxHeartbeats 4000000 in
set_option maxRecDepth 100000 in
theorem m_from23 (l : Launch) (G : GG) (h0 : Nat) (xx : Int32) (nw : Nat) (nk : Nat) (mhasKept : Int32) (nt : Nat) (mtaped : Int32) (nr : Nat) (mrowMany : Int32) (mroundOf : Int32) (mroundFrom : Int32) (mouts : Int32) (nm : Nat) (mfromHour : Int32) (mtoHour : Int32) (ns : Nat) (mfrom : Int32) (mto : Int32) (msort : Int32) (misFault : Int32) (mdeep : Int32) (mcoded : Int32) (mlines : Int32) (nl : Nat) (nc : Nat) (nF : Nat) (np : Nat) (ntr : Nat) (nb : Nat) (mbestCost : Int32) (nso : Nat) (nsi : Nat) (nit : Nat) (nsh : Nat) (nsf : Nat) (nss : Nat) (nrc : Nat) (jr : Nat) (jd : Nat) (mnumber : Int32) (mwhose : Int32) (msize : Int32) (misParted : Int32) (fnrc : Nat → Int32) (hjr : jr ≤ 30) (hjd : jd < 7) : MI l G yX12_bodyFrom cX12_bodyFrom 5 (some .int) 48 0 0 [.ref h0, .int 2, .int 3, .int xx] [(h0, .inr (12, [.ref nw, .ref nk, .int mhasKept, .ref nt, .int mtaped, .ref nr, .int mrowMany, .int mroundOf, .int mroundFrom, .int mouts, .ref nm, .int mfromHour, .int mtoHour, .ref ns, .int mfrom, .int mto, .int msort, .int misFault, .int mdeep, .int mcoded, .int mlines, .ref nl, .ref nc, .ref nF, .ref np, .ref ntr, .ref nb, .int mbestCost, .ref nso, .ref nsi, .ref nit, .ref nsh, .ref nsf, .ref nss, .ref nrc, .int (nI jr), .int (nI jd), .int mnumber, .int mwhose, .int msize, .int misParted])), (nrc, .inl (G.2.1, 30, .inl fnrc))] (fun (r : Int32) (u : Nat × Int32 × (Nat → Int32)) => (True) ∧ (u.1 ≤ 30)) (fun u : Nat × Int32 × (Nat → Int32) => [(h0, .inr (12, [.ref nw, .ref nk, .int mhasKept, .ref nt, .int mtaped, .ref nr, .int mrowMany, .int mroundOf, .int mroundFrom, .int mouts, .ref nm, .int mfromHour, .int mtoHour, .ref ns, .int mfrom, .int mto, .int msort, .int misFault, .int mdeep, .int mcoded, .int mlines, .ref nl, .ref nc, .ref nF, .ref np, .ref ntr, .ref nb, .int mbestCost, .ref nso, .ref nsi, .ref nit, .ref nsh, .ref nsf, .ref nss, .ref nrc, .int (nI u.1), .int (nI jd), .int mnumber, .int mwhose, .int msize, .int u.2.1])), (nrc, .inl (G.2.1, 30, .inl u.2.2))]) := by
  refine MI.start (by decide +kernel) (Nat.le_of_ble_eq_true rfl) ?_
  intro p e s m below meth c A ls hC hK hP hD hS hA hl
  have hl : lv_has ls 5 [(0, .ref h0), (1, .int 2), (2, .int 3), (3, .int xx)] := hl
  obtain ⟨hx, hb, hr, hml, hB, hown, hlocks, hnm⟩ := id hC
  refine lv_iload_n hx hb dX12_bodyFrom_0 rfl (lv_at hl 1 rfl) ?_
  refine lv_istore (lv' := [(4, .int 2), (0, .ref h0), (1, .int 2), (2, .int 3), (3, .int xx)]) hx hb dX12_bodyFrom_1 hl (by decide) rfl (fun ls hl => ?_)
  refine lv_iload hx hb dX12_bodyFrom_3 (lv_at hl 0 rfl) ?_
  refine lv_iload_n hx hb dX12_bodyFrom_5 rfl (lv_at hl 3 rfl) ?_
  refine pS hC hK hl (m_hasOwn23 l G) si_X12_360 rfl rfl (Nat.le_of_ble_eq_true rfl) ⟨Nat.le_of_ble_eq_true rfl, Nat.le_of_ble_eq_true rfl⟩ ⟨by first | exact Nat.le_of_ble_eq_true rfl | exact Nat.zero_le _, by first | exact Nat.le_of_ble_eq_true rfl | exact Nat.zero_le _⟩ dX12_bodyFrom_6 (fun r6568 hr6568 => ?_)
  obtain rfl := hr6568
  refine lv_if_ne (tgt := 22) hx hb dX12_bodyFrom_9 (by decide) (fun c9 => absurd (by decide) c9) (fun _ => ?_)
  refine lv_iload hx hb dX12_bodyFrom_12 (lv_at hl 0 rfl) ?_
  refine pS hC hK hl (m_above2 l G) si_X12_348 rfl rfl (Nat.le_of_ble_eq_true rfl) ⟨Nat.le_of_ble_eq_true rfl, Nat.le_of_ble_eq_true rfl⟩ ⟨by first | exact Nat.le_of_ble_eq_true rfl | exact Nat.zero_le _, by first | exact Nat.le_of_ble_eq_true rfl | exact Nat.zero_le _⟩ dX12_bodyFrom_14 (fun r6570 hr6570 => ?_)
  obtain rfl := hr6570
  refine lv_istore (lv' := [(4, .int 0), (0, .ref h0), (1, .int 2), (2, .int 3), (3, .int xx)]) hx hb dX12_bodyFrom_17 hl (by decide) rfl (fun ls hl => ?_)
  refine lv_goto (tgt := 3) hx hb dX12_bodyFrom_19 (by decide) ?_
  refine lv_iload hx hb dX12_bodyFrom_3 (lv_at hl 0 rfl) ?_
  refine lv_iload_n hx hb dX12_bodyFrom_5 rfl (lv_at hl 3 rfl) ?_
  refine pS hC hK hl (m_hasOwn03 l G) si_X12_360 rfl rfl (Nat.le_of_ble_eq_true rfl) ⟨Nat.le_of_ble_eq_true rfl, Nat.le_of_ble_eq_true rfl⟩ ⟨by first | exact Nat.le_of_ble_eq_true rfl | exact Nat.zero_le _, by first | exact Nat.le_of_ble_eq_true rfl | exact Nat.zero_le _⟩ dX12_bodyFrom_6 (fun r6572 hr6572 => ?_)
  obtain rfl := hr6572
  refine lv_if_ne (tgt := 22) hx hb dX12_bodyFrom_9 (by decide) (fun _ => ?_) (fun c9 => absurd c9 (by decide))
  refine lv_aload_n hx hb dX12_bodyFrom_22 rfl (lv_at hl 1 rfl) ?_
  refine lv_iload hx hb dX12_bodyFrom_23 (lv_at hl 0 rfl) ?_
  refine lv_iload_n hx hb dX12_bodyFrom_25 rfl (lv_at hl 3 rfl) ?_
  refine lv_iload_n hx hb dX12_bodyFrom_26 rfl (lv_at hl 4 rfl) ?_
  refine iV (wr := []) hC hK hl hP hD hS hA (m_body03 l G h0 xx nw nk mhasKept nt mtaped nr mrowMany mroundOf mroundFrom mouts nm mfromHour mtoHour ns mfrom mto msort misFault mdeep mcoded mlines nl nc nF np ntr nb mbestCost nso nsi nit nsh nsf nss nrc jr jd mnumber mwhose msize misParted fnrc (by omega) (by omega)) si_X12_363 [0, 1] [] rfl rfl (by decide) rfl (by decide) (by decide) rfl rfl rfl rfl rfl (Nat.le_of_ble_eq_true rfl) ⟨Nat.le_of_ble_eq_true rfl, Nat.le_of_ble_eq_true rfl⟩ ⟨Nat.le_of_ble_eq_true rfl, Nat.le_of_ble_eq_true rfl⟩ dX12_bodyFrom_27 (fun r6574 u6575 H locs hr6574 hP hD hS => ?_)
  obtain ⟨jr16576, ip16577, gtrc6578⟩ := u6575
  try dsimp only at hr6574
  have hP : va_P G.1 vwCl [(h0, .inr (12, [.ref nw, .ref nk, .int mhasKept, .ref nt, .int mtaped, .ref nr, .int mrowMany, .int mroundOf, .int mroundFrom, .int mouts, .ref nm, .int mfromHour, .int mtoHour, .ref ns, .int mfrom, .int mto, .int msort, .int misFault, .int mdeep, .int mcoded, .int mlines, .ref nl, .ref nc, .ref nF, .ref np, .ref ntr, .ref nb, .int mbestCost, .ref nso, .ref nsi, .ref nit, .ref nsh, .ref nsf, .ref nss, .ref nrc, .int (nI jr16576), .int (nI jd), .int mnumber, .int mwhose, .int msize, .int ip16577])), (nrc, .inl (G.2.1, 30, .inl gtrc6578))] H := hP
  have hD : va_D A [(h0, .inr (12, [.ref nw, .ref nk, .int mhasKept, .ref nt, .int mtaped, .ref nr, .int mrowMany, .int mroundOf, .int mroundFrom, .int mouts, .ref nm, .int mfromHour, .int mtoHour, .ref ns, .int mfrom, .int mto, .int msort, .int misFault, .int mdeep, .int mcoded, .int mlines, .ref nl, .ref nc, .ref nF, .ref np, .ref ntr, .ref nb, .int mbestCost, .ref nso, .ref nsi, .ref nit, .ref nsh, .ref nsf, .ref nss, .ref nrc, .int (nI jr16576), .int (nI jd), .int mnumber, .int mwhose, .int msize, .int ip16577])), (nrc, .inl (G.2.1, 30, .inl gtrc6578))] := hD
  obtain ⟨hr6574, w6579⟩ := hr6574
  exact RI (v := r6574) hC hP hD hS [0, 1] (jr16576, ip16577, gtrc6578) rfl rfl (by decide) (⟨trivial, by omega⟩) rfl dX12_bodyFrom_30
set_option maxHeartbeats 4000000 in
set_option maxRecDepth 100000 in
theorem m_from43 (l : Launch) (G : GG) (h0 : Nat) (xx : Int32) (nw : Nat) (nk : Nat) (mhasKept : Int32) (nt : Nat) (mtaped : Int32) (nr : Nat) (mrowMany : Int32) (mroundOf : Int32) (mroundFrom : Int32) (mouts : Int32) (nm : Nat) (mfromHour : Int32) (mtoHour : Int32) (ns : Nat) (mfrom : Int32) (mto : Int32) (msort : Int32) (misFault : Int32) (mdeep : Int32) (mcoded : Int32) (mlines : Int32) (nl : Nat) (nc : Nat) (nF : Nat) (np : Nat) (ntr : Nat) (nb : Nat) (mbestCost : Int32) (nso : Nat) (nsi : Nat) (nit : Nat) (nsh : Nat) (nsf : Nat) (nss : Nat) (nrc : Nat) (jr : Nat) (jd : Nat) (mnumber : Int32) (mwhose : Int32) (msize : Int32) (misParted : Int32) (fnrc : Nat → Int32) (hjr : jr ≤ 30) (hjd : jd < 7) : MI l G yX12_bodyFrom cX12_bodyFrom 5 (some .int) 48 0 0 [.ref h0, .int 4, .int 3, .int xx] [(h0, .inr (12, [.ref nw, .ref nk, .int mhasKept, .ref nt, .int mtaped, .ref nr, .int mrowMany, .int mroundOf, .int mroundFrom, .int mouts, .ref nm, .int mfromHour, .int mtoHour, .ref ns, .int mfrom, .int mto, .int msort, .int misFault, .int mdeep, .int mcoded, .int mlines, .ref nl, .ref nc, .ref nF, .ref np, .ref ntr, .ref nb, .int mbestCost, .ref nso, .ref nsi, .ref nit, .ref nsh, .ref nsf, .ref nss, .ref nrc, .int (nI jr), .int (nI jd), .int mnumber, .int mwhose, .int msize, .int misParted])), (nrc, .inl (G.2.1, 30, .inl fnrc))] (fun (r : Int32) (u : Nat × Int32 × (Nat → Int32)) => (True) ∧ (u.1 ≤ 30)) (fun u : Nat × Int32 × (Nat → Int32) => [(h0, .inr (12, [.ref nw, .ref nk, .int mhasKept, .ref nt, .int mtaped, .ref nr, .int mrowMany, .int mroundOf, .int mroundFrom, .int mouts, .ref nm, .int mfromHour, .int mtoHour, .ref ns, .int mfrom, .int mto, .int msort, .int misFault, .int mdeep, .int mcoded, .int mlines, .ref nl, .ref nc, .ref nF, .ref np, .ref ntr, .ref nb, .int mbestCost, .ref nso, .ref nsi, .ref nit, .ref nsh, .ref nsf, .ref nss, .ref nrc, .int (nI u.1), .int (nI jd), .int mnumber, .int mwhose, .int msize, .int u.2.1])), (nrc, .inl (G.2.1, 30, .inl u.2.2))]) := by
  refine MI.start (by decide +kernel) (Nat.le_of_ble_eq_true rfl) ?_
  intro p e s m below meth c A ls hC hK hP hD hS hA hl
  have hl : lv_has ls 5 [(0, .ref h0), (1, .int 4), (2, .int 3), (3, .int xx)] := hl
  obtain ⟨hx, hb, hr, hml, hB, hown, hlocks, hnm⟩ := id hC
  refine lv_iload_n hx hb dX12_bodyFrom_0 rfl (lv_at hl 1 rfl) ?_
  refine lv_istore (lv' := [(4, .int 4), (0, .ref h0), (1, .int 4), (2, .int 3), (3, .int xx)]) hx hb dX12_bodyFrom_1 hl (by decide) rfl (fun ls hl => ?_)
  refine lv_iload hx hb dX12_bodyFrom_3 (lv_at hl 0 rfl) ?_
  refine lv_iload_n hx hb dX12_bodyFrom_5 rfl (lv_at hl 3 rfl) ?_
  refine pS hC hK hl (m_hasOwn43 l G) si_X12_360 rfl rfl (Nat.le_of_ble_eq_true rfl) ⟨Nat.le_of_ble_eq_true rfl, Nat.le_of_ble_eq_true rfl⟩ ⟨by first | exact Nat.le_of_ble_eq_true rfl | exact Nat.zero_le _, by first | exact Nat.le_of_ble_eq_true rfl | exact Nat.zero_le _⟩ dX12_bodyFrom_6 (fun r6580 hr6580 => ?_)
  obtain rfl := hr6580
  refine lv_if_ne (tgt := 22) hx hb dX12_bodyFrom_9 (by decide) (fun c9 => absurd (by decide) c9) (fun _ => ?_)
  refine lv_iload hx hb dX12_bodyFrom_12 (lv_at hl 0 rfl) ?_
  refine pS hC hK hl (m_above4 l G) si_X12_348 rfl rfl (Nat.le_of_ble_eq_true rfl) ⟨Nat.le_of_ble_eq_true rfl, Nat.le_of_ble_eq_true rfl⟩ ⟨by first | exact Nat.le_of_ble_eq_true rfl | exact Nat.zero_le _, by first | exact Nat.le_of_ble_eq_true rfl | exact Nat.zero_le _⟩ dX12_bodyFrom_14 (fun r6582 hr6582 => ?_)
  obtain rfl := hr6582
  refine lv_istore (lv' := [(4, .int 0), (0, .ref h0), (1, .int 4), (2, .int 3), (3, .int xx)]) hx hb dX12_bodyFrom_17 hl (by decide) rfl (fun ls hl => ?_)
  refine lv_goto (tgt := 3) hx hb dX12_bodyFrom_19 (by decide) ?_
  refine lv_iload hx hb dX12_bodyFrom_3 (lv_at hl 0 rfl) ?_
  refine lv_iload_n hx hb dX12_bodyFrom_5 rfl (lv_at hl 3 rfl) ?_
  refine pS hC hK hl (m_hasOwn03 l G) si_X12_360 rfl rfl (Nat.le_of_ble_eq_true rfl) ⟨Nat.le_of_ble_eq_true rfl, Nat.le_of_ble_eq_true rfl⟩ ⟨by first | exact Nat.le_of_ble_eq_true rfl | exact Nat.zero_le _, by first | exact Nat.le_of_ble_eq_true rfl | exact Nat.zero_le _⟩ dX12_bodyFrom_6 (fun r6584 hr6584 => ?_)
  obtain rfl := hr6584
  refine lv_if_ne (tgt := 22) hx hb dX12_bodyFrom_9 (by decide) (fun _ => ?_) (fun c9 => absurd c9 (by decide))
  refine lv_aload_n hx hb dX12_bodyFrom_22 rfl (lv_at hl 1 rfl) ?_
  refine lv_iload hx hb dX12_bodyFrom_23 (lv_at hl 0 rfl) ?_
  refine lv_iload_n hx hb dX12_bodyFrom_25 rfl (lv_at hl 3 rfl) ?_
  refine lv_iload_n hx hb dX12_bodyFrom_26 rfl (lv_at hl 4 rfl) ?_
  refine iV (wr := []) hC hK hl hP hD hS hA (m_body03 l G h0 xx nw nk mhasKept nt mtaped nr mrowMany mroundOf mroundFrom mouts nm mfromHour mtoHour ns mfrom mto msort misFault mdeep mcoded mlines nl nc nF np ntr nb mbestCost nso nsi nit nsh nsf nss nrc jr jd mnumber mwhose msize misParted fnrc (by omega) (by omega)) si_X12_363 [0, 1] [] rfl rfl (by decide) rfl (by decide) (by decide) rfl rfl rfl rfl rfl (Nat.le_of_ble_eq_true rfl) ⟨Nat.le_of_ble_eq_true rfl, Nat.le_of_ble_eq_true rfl⟩ ⟨Nat.le_of_ble_eq_true rfl, Nat.le_of_ble_eq_true rfl⟩ dX12_bodyFrom_27 (fun r6586 u6587 H locs hr6586 hP hD hS => ?_)
  obtain ⟨jr16588, ip16589, gtrc6590⟩ := u6587
  try dsimp only at hr6586
  have hP : va_P G.1 vwCl [(h0, .inr (12, [.ref nw, .ref nk, .int mhasKept, .ref nt, .int mtaped, .ref nr, .int mrowMany, .int mroundOf, .int mroundFrom, .int mouts, .ref nm, .int mfromHour, .int mtoHour, .ref ns, .int mfrom, .int mto, .int msort, .int misFault, .int mdeep, .int mcoded, .int mlines, .ref nl, .ref nc, .ref nF, .ref np, .ref ntr, .ref nb, .int mbestCost, .ref nso, .ref nsi, .ref nit, .ref nsh, .ref nsf, .ref nss, .ref nrc, .int (nI jr16588), .int (nI jd), .int mnumber, .int mwhose, .int msize, .int ip16589])), (nrc, .inl (G.2.1, 30, .inl gtrc6590))] H := hP
  have hD : va_D A [(h0, .inr (12, [.ref nw, .ref nk, .int mhasKept, .ref nt, .int mtaped, .ref nr, .int mrowMany, .int mroundOf, .int mroundFrom, .int mouts, .ref nm, .int mfromHour, .int mtoHour, .ref ns, .int mfrom, .int mto, .int msort, .int misFault, .int mdeep, .int mcoded, .int mlines, .ref nl, .ref nc, .ref nF, .ref np, .ref ntr, .ref nb, .int mbestCost, .ref nso, .ref nsi, .ref nit, .ref nsh, .ref nsf, .ref nss, .ref nrc, .int (nI jr16588), .int (nI jd), .int mnumber, .int mwhose, .int msize, .int ip16589])), (nrc, .inl (G.2.1, 30, .inl gtrc6590))] := hD
  obtain ⟨hr6586, w6591⟩ := hr6586
  exact RI (v := r6586) hC hP hD hS [0, 1] (jr16588, ip16589, gtrc6590) rfl rfl (by decide) (⟨trivial, by omega⟩) rfl dX12_bodyFrom_30
set_option maxHeartbeats 4000000 in
set_option maxRecDepth 100000 in
theorem m_from53 (l : Launch) (G : GG) (h0 : Nat) (xx : Int32) (nw : Nat) (nk : Nat) (mhasKept : Int32) (nt : Nat) (mtaped : Int32) (nr : Nat) (mrowMany : Int32) (mroundOf : Int32) (mroundFrom : Int32) (mouts : Int32) (nm : Nat) (mfromHour : Int32) (mtoHour : Int32) (ns : Nat) (mfrom : Int32) (mto : Int32) (msort : Int32) (misFault : Int32) (mdeep : Int32) (mcoded : Int32) (mlines : Int32) (nl : Nat) (nc : Nat) (nF : Nat) (np : Nat) (ntr : Nat) (nb : Nat) (mbestCost : Int32) (nso : Nat) (nsi : Nat) (nit : Nat) (nsh : Nat) (nsf : Nat) (nss : Nat) (nrc : Nat) (jr : Nat) (jd : Nat) (mnumber : Int32) (mwhose : Int32) (msize : Int32) (misParted : Int32) (fnrc : Nat → Int32) (hjr : jr ≤ 30) (hjd : jd < 7) : MI l G yX12_bodyFrom cX12_bodyFrom 5 (some .int) 48 0 0 [.ref h0, .int 5, .int 3, .int xx] [(h0, .inr (12, [.ref nw, .ref nk, .int mhasKept, .ref nt, .int mtaped, .ref nr, .int mrowMany, .int mroundOf, .int mroundFrom, .int mouts, .ref nm, .int mfromHour, .int mtoHour, .ref ns, .int mfrom, .int mto, .int msort, .int misFault, .int mdeep, .int mcoded, .int mlines, .ref nl, .ref nc, .ref nF, .ref np, .ref ntr, .ref nb, .int mbestCost, .ref nso, .ref nsi, .ref nit, .ref nsh, .ref nsf, .ref nss, .ref nrc, .int (nI jr), .int (nI jd), .int mnumber, .int mwhose, .int msize, .int misParted])), (nrc, .inl (G.2.1, 30, .inl fnrc))] (fun (r : Int32) (u : Nat × Int32 × (Nat → Int32)) => (True) ∧ (u.1 ≤ 30)) (fun u : Nat × Int32 × (Nat → Int32) => [(h0, .inr (12, [.ref nw, .ref nk, .int mhasKept, .ref nt, .int mtaped, .ref nr, .int mrowMany, .int mroundOf, .int mroundFrom, .int mouts, .ref nm, .int mfromHour, .int mtoHour, .ref ns, .int mfrom, .int mto, .int msort, .int misFault, .int mdeep, .int mcoded, .int mlines, .ref nl, .ref nc, .ref nF, .ref np, .ref ntr, .ref nb, .int mbestCost, .ref nso, .ref nsi, .ref nit, .ref nsh, .ref nsf, .ref nss, .ref nrc, .int (nI u.1), .int (nI jd), .int mnumber, .int mwhose, .int msize, .int u.2.1])), (nrc, .inl (G.2.1, 30, .inl u.2.2))]) := by
  refine MI.start (by decide +kernel) (Nat.le_of_ble_eq_true rfl) ?_
  intro p e s m below meth c A ls hC hK hP hD hS hA hl
  have hl : lv_has ls 5 [(0, .ref h0), (1, .int 5), (2, .int 3), (3, .int xx)] := hl
  obtain ⟨hx, hb, hr, hml, hB, hown, hlocks, hnm⟩ := id hC
  refine lv_iload_n hx hb dX12_bodyFrom_0 rfl (lv_at hl 1 rfl) ?_
  refine lv_istore (lv' := [(4, .int 5), (0, .ref h0), (1, .int 5), (2, .int 3), (3, .int xx)]) hx hb dX12_bodyFrom_1 hl (by decide) rfl (fun ls hl => ?_)
  refine lv_iload hx hb dX12_bodyFrom_3 (lv_at hl 0 rfl) ?_
  refine lv_iload_n hx hb dX12_bodyFrom_5 rfl (lv_at hl 3 rfl) ?_
  refine pS hC hK hl (m_hasOwn53 l G) si_X12_360 rfl rfl (Nat.le_of_ble_eq_true rfl) ⟨Nat.le_of_ble_eq_true rfl, Nat.le_of_ble_eq_true rfl⟩ ⟨by first | exact Nat.le_of_ble_eq_true rfl | exact Nat.zero_le _, by first | exact Nat.le_of_ble_eq_true rfl | exact Nat.zero_le _⟩ dX12_bodyFrom_6 (fun r6592 hr6592 => ?_)
  obtain rfl := hr6592
  refine lv_if_ne (tgt := 22) hx hb dX12_bodyFrom_9 (by decide) (fun c9 => absurd (by decide) c9) (fun _ => ?_)
  refine lv_iload hx hb dX12_bodyFrom_12 (lv_at hl 0 rfl) ?_
  refine pS hC hK hl (m_above5 l G) si_X12_348 rfl rfl (Nat.le_of_ble_eq_true rfl) ⟨Nat.le_of_ble_eq_true rfl, Nat.le_of_ble_eq_true rfl⟩ ⟨by first | exact Nat.le_of_ble_eq_true rfl | exact Nat.zero_le _, by first | exact Nat.le_of_ble_eq_true rfl | exact Nat.zero_le _⟩ dX12_bodyFrom_14 (fun r6594 hr6594 => ?_)
  obtain rfl := hr6594
  refine lv_istore (lv' := [(4, .int 4), (0, .ref h0), (1, .int 5), (2, .int 3), (3, .int xx)]) hx hb dX12_bodyFrom_17 hl (by decide) rfl (fun ls hl => ?_)
  refine lv_goto (tgt := 3) hx hb dX12_bodyFrom_19 (by decide) ?_
  refine lv_iload hx hb dX12_bodyFrom_3 (lv_at hl 0 rfl) ?_
  refine lv_iload_n hx hb dX12_bodyFrom_5 rfl (lv_at hl 3 rfl) ?_
  refine pS hC hK hl (m_hasOwn43 l G) si_X12_360 rfl rfl (Nat.le_of_ble_eq_true rfl) ⟨Nat.le_of_ble_eq_true rfl, Nat.le_of_ble_eq_true rfl⟩ ⟨by first | exact Nat.le_of_ble_eq_true rfl | exact Nat.zero_le _, by first | exact Nat.le_of_ble_eq_true rfl | exact Nat.zero_le _⟩ dX12_bodyFrom_6 (fun r6596 hr6596 => ?_)
  obtain rfl := hr6596
  refine lv_if_ne (tgt := 22) hx hb dX12_bodyFrom_9 (by decide) (fun c9 => absurd (by decide) c9) (fun _ => ?_)
  refine lv_iload hx hb dX12_bodyFrom_12 (lv_at hl 0 rfl) ?_
  refine pS hC hK hl (m_above4 l G) si_X12_348 rfl rfl (Nat.le_of_ble_eq_true rfl) ⟨Nat.le_of_ble_eq_true rfl, Nat.le_of_ble_eq_true rfl⟩ ⟨by first | exact Nat.le_of_ble_eq_true rfl | exact Nat.zero_le _, by first | exact Nat.le_of_ble_eq_true rfl | exact Nat.zero_le _⟩ dX12_bodyFrom_14 (fun r6598 hr6598 => ?_)
  obtain rfl := hr6598
  refine lv_istore (lv' := [(4, .int 0), (0, .ref h0), (1, .int 5), (2, .int 3), (3, .int xx)]) hx hb dX12_bodyFrom_17 hl (by decide) rfl (fun ls hl => ?_)
  refine lv_goto (tgt := 3) hx hb dX12_bodyFrom_19 (by decide) ?_
  refine lv_iload hx hb dX12_bodyFrom_3 (lv_at hl 0 rfl) ?_
  refine lv_iload_n hx hb dX12_bodyFrom_5 rfl (lv_at hl 3 rfl) ?_
  refine pS hC hK hl (m_hasOwn03 l G) si_X12_360 rfl rfl (Nat.le_of_ble_eq_true rfl) ⟨Nat.le_of_ble_eq_true rfl, Nat.le_of_ble_eq_true rfl⟩ ⟨by first | exact Nat.le_of_ble_eq_true rfl | exact Nat.zero_le _, by first | exact Nat.le_of_ble_eq_true rfl | exact Nat.zero_le _⟩ dX12_bodyFrom_6 (fun r6600 hr6600 => ?_)
  obtain rfl := hr6600
  refine lv_if_ne (tgt := 22) hx hb dX12_bodyFrom_9 (by decide) (fun _ => ?_) (fun c9 => absurd c9 (by decide))
  refine lv_aload_n hx hb dX12_bodyFrom_22 rfl (lv_at hl 1 rfl) ?_
  refine lv_iload hx hb dX12_bodyFrom_23 (lv_at hl 0 rfl) ?_
  refine lv_iload_n hx hb dX12_bodyFrom_25 rfl (lv_at hl 3 rfl) ?_
  refine lv_iload_n hx hb dX12_bodyFrom_26 rfl (lv_at hl 4 rfl) ?_
  refine iV (wr := []) hC hK hl hP hD hS hA (m_body03 l G h0 xx nw nk mhasKept nt mtaped nr mrowMany mroundOf mroundFrom mouts nm mfromHour mtoHour ns mfrom mto msort misFault mdeep mcoded mlines nl nc nF np ntr nb mbestCost nso nsi nit nsh nsf nss nrc jr jd mnumber mwhose msize misParted fnrc (by omega) (by omega)) si_X12_363 [0, 1] [] rfl rfl (by decide) rfl (by decide) (by decide) rfl rfl rfl rfl rfl (Nat.le_of_ble_eq_true rfl) ⟨Nat.le_of_ble_eq_true rfl, Nat.le_of_ble_eq_true rfl⟩ ⟨Nat.le_of_ble_eq_true rfl, Nat.le_of_ble_eq_true rfl⟩ dX12_bodyFrom_27 (fun r6602 u6603 H locs hr6602 hP hD hS => ?_)
  obtain ⟨jr16604, ip16605, gtrc6606⟩ := u6603
  try dsimp only at hr6602
  have hP : va_P G.1 vwCl [(h0, .inr (12, [.ref nw, .ref nk, .int mhasKept, .ref nt, .int mtaped, .ref nr, .int mrowMany, .int mroundOf, .int mroundFrom, .int mouts, .ref nm, .int mfromHour, .int mtoHour, .ref ns, .int mfrom, .int mto, .int msort, .int misFault, .int mdeep, .int mcoded, .int mlines, .ref nl, .ref nc, .ref nF, .ref np, .ref ntr, .ref nb, .int mbestCost, .ref nso, .ref nsi, .ref nit, .ref nsh, .ref nsf, .ref nss, .ref nrc, .int (nI jr16604), .int (nI jd), .int mnumber, .int mwhose, .int msize, .int ip16605])), (nrc, .inl (G.2.1, 30, .inl gtrc6606))] H := hP
  have hD : va_D A [(h0, .inr (12, [.ref nw, .ref nk, .int mhasKept, .ref nt, .int mtaped, .ref nr, .int mrowMany, .int mroundOf, .int mroundFrom, .int mouts, .ref nm, .int mfromHour, .int mtoHour, .ref ns, .int mfrom, .int mto, .int msort, .int misFault, .int mdeep, .int mcoded, .int mlines, .ref nl, .ref nc, .ref nF, .ref np, .ref ntr, .ref nb, .int mbestCost, .ref nso, .ref nsi, .ref nit, .ref nsh, .ref nsf, .ref nss, .ref nrc, .int (nI jr16604), .int (nI jd), .int mnumber, .int mwhose, .int msize, .int ip16605])), (nrc, .inl (G.2.1, 30, .inl gtrc6606))] := hD
  obtain ⟨hr6602, w6607⟩ := hr6602
  exact RI (v := r6602) hC hP hD hS [0, 1] (jr16604, ip16605, gtrc6606) rfl rfl (by decide) (⟨trivial, by omega⟩) rfl dX12_bodyFrom_30
set_option maxHeartbeats 4000000 in
set_option maxRecDepth 100000 in
theorem m_dealt3 (l : Launch) (G : GG) (h0 : Nat) (xx : Int32) (nw : Nat) (nk : Nat) (mhasKept : Int32) (nt : Nat) (mtaped : Int32) (nr : Nat) (mrowMany : Int32) (mroundOf : Int32) (mroundFrom : Int32) (mouts : Int32) (nm : Nat) (mfromHour : Int32) (mtoHour : Int32) (ns : Nat) (mfrom : Int32) (mto : Int32) (msort : Int32) (misFault : Int32) (mdeep : Int32) (mcoded : Int32) (mlines : Int32) (nl : Nat) (nc : Nat) (nF : Nat) (np : Nat) (ntr : Nat) (nb : Nat) (mbestCost : Int32) (nso : Nat) (nsi : Nat) (nit : Nat) (nsh : Nat) (nsf : Nat) (nss : Nat) (nrc : Nat) (jr : Nat) (jd : Nat) (mnumber : Int32) (mwhose : Int32) (msize : Int32) (misParted : Int32) (fnrc : Nat → Int32) (hjr : jr ≤ 30) (hjd : jd < 7) : MI l G yX12_dealt cX12_dealt 3 (some .int) 50 0 0 [.ref h0, .int 3, .int xx] [(h0, .inr (12, [.ref nw, .ref nk, .int mhasKept, .ref nt, .int mtaped, .ref nr, .int mrowMany, .int mroundOf, .int mroundFrom, .int mouts, .ref nm, .int mfromHour, .int mtoHour, .ref ns, .int mfrom, .int mto, .int msort, .int misFault, .int mdeep, .int mcoded, .int mlines, .ref nl, .ref nc, .ref nF, .ref np, .ref ntr, .ref nb, .int mbestCost, .ref nso, .ref nsi, .ref nit, .ref nsh, .ref nsf, .ref nss, .ref nrc, .int (nI jr), .int (nI jd), .int mnumber, .int mwhose, .int msize, .int misParted])), (nrc, .inl (G.2.1, 30, .inl fnrc))] (fun (r : Int32) (u : Nat × Int32 × (Nat → Int32)) => (True) ∧ (u.1 ≤ 30)) (fun u : Nat × Int32 × (Nat → Int32) => [(h0, .inr (12, [.ref nw, .ref nk, .int mhasKept, .ref nt, .int mtaped, .ref nr, .int mrowMany, .int mroundOf, .int mroundFrom, .int mouts, .ref nm, .int mfromHour, .int mtoHour, .ref ns, .int mfrom, .int mto, .int msort, .int misFault, .int mdeep, .int mcoded, .int mlines, .ref nl, .ref nc, .ref nF, .ref np, .ref ntr, .ref nb, .int mbestCost, .ref nso, .ref nsi, .ref nit, .ref nsh, .ref nsf, .ref nss, .ref nrc, .int (nI u.1), .int (nI jd), .int mnumber, .int mwhose, .int msize, .int u.2.1])), (nrc, .inl (G.2.1, 30, .inl u.2.2))]) := by
  refine MI.start (by decide +kernel) (Nat.le_of_ble_eq_true rfl) ?_
  intro p e s m below meth c A ls hC hK hP hD hS hA hl
  have hl : lv_has ls 3 [(0, .ref h0), (1, .int 3), (2, .int xx)] := hl
  obtain ⟨hx, hb, hr, hml, hB, hown, hlocks, hnm⟩ := id hC
  refine lv_aload_n hx hb dX12_dealt_0 rfl (lv_at hl 0 rfl) ?_
  refine lv_aload_n hx hb dX12_dealt_1 rfl (lv_at hl 0 rfl) ?_
  refine gf_X12_354 hC rfl hK hP 0 rfl rfl dX12_dealt_2 ?_
  refine lv_iload_n hx hb dX12_dealt_5 rfl (lv_at hl 1 rfl) ?_
  refine lv_iload_n hx hb dX12_dealt_6 rfl (lv_at hl 2 rfl) ?_
  rcases (show jd = 0 ∨ jd = 1 ∨ jd = 2 ∨ jd = 3 ∨ jd = 4 ∨ jd = 5 ∨ jd = 6 by omega) with rfl | rfl | rfl | rfl | rfl | rfl | rfl
  · refine iV (wr := []) hC hK hl hP hD hS hA (m_from03 l G h0 xx nw nk mhasKept nt mtaped nr mrowMany mroundOf mroundFrom mouts nm mfromHour mtoHour ns mfrom mto msort misFault mdeep mcoded mlines nl nc nF np ntr nb mbestCost nso nsi nit nsh nsf nss nrc jr 0 mnumber mwhose msize misParted fnrc (by omega) (by omega)) si_X12_357 [0, 1] [] rfl rfl (by decide) rfl (by decide) (by decide) rfl rfl rfl rfl rfl (Nat.le_of_ble_eq_true rfl) ⟨Nat.le_of_ble_eq_true rfl, Nat.le_of_ble_eq_true rfl⟩ ⟨Nat.le_of_ble_eq_true rfl, Nat.le_of_ble_eq_true rfl⟩ dX12_dealt_7 (fun r6608 u6609 H locs hr6608 hP hD hS => ?_)
    obtain ⟨jr16610, ip16611, gtrc6612⟩ := u6609
    try dsimp only at hr6608
    have hP : va_P G.1 vwCl [(h0, .inr (12, [.ref nw, .ref nk, .int mhasKept, .ref nt, .int mtaped, .ref nr, .int mrowMany, .int mroundOf, .int mroundFrom, .int mouts, .ref nm, .int mfromHour, .int mtoHour, .ref ns, .int mfrom, .int mto, .int msort, .int misFault, .int mdeep, .int mcoded, .int mlines, .ref nl, .ref nc, .ref nF, .ref np, .ref ntr, .ref nb, .int mbestCost, .ref nso, .ref nsi, .ref nit, .ref nsh, .ref nsf, .ref nss, .ref nrc, .int (nI jr16610), .int 0, .int mnumber, .int mwhose, .int msize, .int ip16611])), (nrc, .inl (G.2.1, 30, .inl gtrc6612))] H := hP
    have hD : va_D A [(h0, .inr (12, [.ref nw, .ref nk, .int mhasKept, .ref nt, .int mtaped, .ref nr, .int mrowMany, .int mroundOf, .int mroundFrom, .int mouts, .ref nm, .int mfromHour, .int mtoHour, .ref ns, .int mfrom, .int mto, .int msort, .int misFault, .int mdeep, .int mcoded, .int mlines, .ref nl, .ref nc, .ref nF, .ref np, .ref ntr, .ref nb, .int mbestCost, .ref nso, .ref nsi, .ref nit, .ref nsh, .ref nsf, .ref nss, .ref nrc, .int (nI jr16610), .int 0, .int mnumber, .int mwhose, .int msize, .int ip16611])), (nrc, .inl (G.2.1, 30, .inl gtrc6612))] := hD
    obtain ⟨hr6608, w6613⟩ := hr6608
    exact RI (v := r6608) hC hP hD hS [0, 1] (jr16610, ip16611, gtrc6612) rfl rfl (by decide) (⟨trivial, by omega⟩) rfl dX12_dealt_10
  · refine iV (wr := []) hC hK hl hP hD hS hA (m_from13 l G h0 xx nw nk mhasKept nt mtaped nr mrowMany mroundOf mroundFrom mouts nm mfromHour mtoHour ns mfrom mto msort misFault mdeep mcoded mlines nl nc nF np ntr nb mbestCost nso nsi nit nsh nsf nss nrc jr 1 mnumber mwhose msize misParted fnrc (by omega) (by omega)) si_X12_357 [0, 1] [] rfl rfl (by decide) rfl (by decide) (by decide) rfl rfl rfl rfl rfl (Nat.le_of_ble_eq_true rfl) ⟨Nat.le_of_ble_eq_true rfl, Nat.le_of_ble_eq_true rfl⟩ ⟨Nat.le_of_ble_eq_true rfl, Nat.le_of_ble_eq_true rfl⟩ dX12_dealt_7 (fun r6614 u6615 H locs hr6614 hP hD hS => ?_)
    obtain ⟨jr16616, ip16617, gtrc6618⟩ := u6615
    try dsimp only at hr6614
    have hP : va_P G.1 vwCl [(h0, .inr (12, [.ref nw, .ref nk, .int mhasKept, .ref nt, .int mtaped, .ref nr, .int mrowMany, .int mroundOf, .int mroundFrom, .int mouts, .ref nm, .int mfromHour, .int mtoHour, .ref ns, .int mfrom, .int mto, .int msort, .int misFault, .int mdeep, .int mcoded, .int mlines, .ref nl, .ref nc, .ref nF, .ref np, .ref ntr, .ref nb, .int mbestCost, .ref nso, .ref nsi, .ref nit, .ref nsh, .ref nsf, .ref nss, .ref nrc, .int (nI jr16616), .int 1, .int mnumber, .int mwhose, .int msize, .int ip16617])), (nrc, .inl (G.2.1, 30, .inl gtrc6618))] H := hP
    have hD : va_D A [(h0, .inr (12, [.ref nw, .ref nk, .int mhasKept, .ref nt, .int mtaped, .ref nr, .int mrowMany, .int mroundOf, .int mroundFrom, .int mouts, .ref nm, .int mfromHour, .int mtoHour, .ref ns, .int mfrom, .int mto, .int msort, .int misFault, .int mdeep, .int mcoded, .int mlines, .ref nl, .ref nc, .ref nF, .ref np, .ref ntr, .ref nb, .int mbestCost, .ref nso, .ref nsi, .ref nit, .ref nsh, .ref nsf, .ref nss, .ref nrc, .int (nI jr16616), .int 1, .int mnumber, .int mwhose, .int msize, .int ip16617])), (nrc, .inl (G.2.1, 30, .inl gtrc6618))] := hD
    obtain ⟨hr6614, w6619⟩ := hr6614
    exact RI (v := r6614) hC hP hD hS [0, 1] (jr16616, ip16617, gtrc6618) rfl rfl (by decide) (⟨trivial, by omega⟩) rfl dX12_dealt_10
  · refine iV (wr := []) hC hK hl hP hD hS hA (m_from23 l G h0 xx nw nk mhasKept nt mtaped nr mrowMany mroundOf mroundFrom mouts nm mfromHour mtoHour ns mfrom mto msort misFault mdeep mcoded mlines nl nc nF np ntr nb mbestCost nso nsi nit nsh nsf nss nrc jr 2 mnumber mwhose msize misParted fnrc (by omega) (by omega)) si_X12_357 [0, 1] [] rfl rfl (by decide) rfl (by decide) (by decide) rfl rfl rfl rfl rfl (Nat.le_of_ble_eq_true rfl) ⟨Nat.le_of_ble_eq_true rfl, Nat.le_of_ble_eq_true rfl⟩ ⟨Nat.le_of_ble_eq_true rfl, Nat.le_of_ble_eq_true rfl⟩ dX12_dealt_7 (fun r6620 u6621 H locs hr6620 hP hD hS => ?_)
    obtain ⟨jr16622, ip16623, gtrc6624⟩ := u6621
    try dsimp only at hr6620
    have hP : va_P G.1 vwCl [(h0, .inr (12, [.ref nw, .ref nk, .int mhasKept, .ref nt, .int mtaped, .ref nr, .int mrowMany, .int mroundOf, .int mroundFrom, .int mouts, .ref nm, .int mfromHour, .int mtoHour, .ref ns, .int mfrom, .int mto, .int msort, .int misFault, .int mdeep, .int mcoded, .int mlines, .ref nl, .ref nc, .ref nF, .ref np, .ref ntr, .ref nb, .int mbestCost, .ref nso, .ref nsi, .ref nit, .ref nsh, .ref nsf, .ref nss, .ref nrc, .int (nI jr16622), .int 2, .int mnumber, .int mwhose, .int msize, .int ip16623])), (nrc, .inl (G.2.1, 30, .inl gtrc6624))] H := hP
    have hD : va_D A [(h0, .inr (12, [.ref nw, .ref nk, .int mhasKept, .ref nt, .int mtaped, .ref nr, .int mrowMany, .int mroundOf, .int mroundFrom, .int mouts, .ref nm, .int mfromHour, .int mtoHour, .ref ns, .int mfrom, .int mto, .int msort, .int misFault, .int mdeep, .int mcoded, .int mlines, .ref nl, .ref nc, .ref nF, .ref np, .ref ntr, .ref nb, .int mbestCost, .ref nso, .ref nsi, .ref nit, .ref nsh, .ref nsf, .ref nss, .ref nrc, .int (nI jr16622), .int 2, .int mnumber, .int mwhose, .int msize, .int ip16623])), (nrc, .inl (G.2.1, 30, .inl gtrc6624))] := hD
    obtain ⟨hr6620, w6625⟩ := hr6620
    exact RI (v := r6620) hC hP hD hS [0, 1] (jr16622, ip16623, gtrc6624) rfl rfl (by decide) (⟨trivial, by omega⟩) rfl dX12_dealt_10
  · refine iV (wr := []) hC hK hl hP hD hS hA (m_from33 l G h0 xx nw nk mhasKept nt mtaped nr mrowMany mroundOf mroundFrom mouts nm mfromHour mtoHour ns mfrom mto msort misFault mdeep mcoded mlines nl nc nF np ntr nb mbestCost nso nsi nit nsh nsf nss nrc jr 3 mnumber mwhose msize misParted fnrc (by omega) (by omega)) si_X12_357 [0, 1] [] rfl rfl (by decide) rfl (by decide) (by decide) rfl rfl rfl rfl rfl (Nat.le_of_ble_eq_true rfl) ⟨Nat.le_of_ble_eq_true rfl, Nat.le_of_ble_eq_true rfl⟩ ⟨Nat.le_of_ble_eq_true rfl, Nat.le_of_ble_eq_true rfl⟩ dX12_dealt_7 (fun r6626 u6627 H locs hr6626 hP hD hS => ?_)
    obtain ⟨jr16628, ip16629, gtrc6630⟩ := u6627
    try dsimp only at hr6626
    have hP : va_P G.1 vwCl [(h0, .inr (12, [.ref nw, .ref nk, .int mhasKept, .ref nt, .int mtaped, .ref nr, .int mrowMany, .int mroundOf, .int mroundFrom, .int mouts, .ref nm, .int mfromHour, .int mtoHour, .ref ns, .int mfrom, .int mto, .int msort, .int misFault, .int mdeep, .int mcoded, .int mlines, .ref nl, .ref nc, .ref nF, .ref np, .ref ntr, .ref nb, .int mbestCost, .ref nso, .ref nsi, .ref nit, .ref nsh, .ref nsf, .ref nss, .ref nrc, .int (nI jr16628), .int 3, .int mnumber, .int mwhose, .int msize, .int ip16629])), (nrc, .inl (G.2.1, 30, .inl gtrc6630))] H := hP
    have hD : va_D A [(h0, .inr (12, [.ref nw, .ref nk, .int mhasKept, .ref nt, .int mtaped, .ref nr, .int mrowMany, .int mroundOf, .int mroundFrom, .int mouts, .ref nm, .int mfromHour, .int mtoHour, .ref ns, .int mfrom, .int mto, .int msort, .int misFault, .int mdeep, .int mcoded, .int mlines, .ref nl, .ref nc, .ref nF, .ref np, .ref ntr, .ref nb, .int mbestCost, .ref nso, .ref nsi, .ref nit, .ref nsh, .ref nsf, .ref nss, .ref nrc, .int (nI jr16628), .int 3, .int mnumber, .int mwhose, .int msize, .int ip16629])), (nrc, .inl (G.2.1, 30, .inl gtrc6630))] := hD
    obtain ⟨hr6626, w6631⟩ := hr6626
    exact RI (v := r6626) hC hP hD hS [0, 1] (jr16628, ip16629, gtrc6630) rfl rfl (by decide) (⟨trivial, by omega⟩) rfl dX12_dealt_10
  · refine iV (wr := []) hC hK hl hP hD hS hA (m_from43 l G h0 xx nw nk mhasKept nt mtaped nr mrowMany mroundOf mroundFrom mouts nm mfromHour mtoHour ns mfrom mto msort misFault mdeep mcoded mlines nl nc nF np ntr nb mbestCost nso nsi nit nsh nsf nss nrc jr 4 mnumber mwhose msize misParted fnrc (by omega) (by omega)) si_X12_357 [0, 1] [] rfl rfl (by decide) rfl (by decide) (by decide) rfl rfl rfl rfl rfl (Nat.le_of_ble_eq_true rfl) ⟨Nat.le_of_ble_eq_true rfl, Nat.le_of_ble_eq_true rfl⟩ ⟨Nat.le_of_ble_eq_true rfl, Nat.le_of_ble_eq_true rfl⟩ dX12_dealt_7 (fun r6632 u6633 H locs hr6632 hP hD hS => ?_)
    obtain ⟨jr16634, ip16635, gtrc6636⟩ := u6633
    try dsimp only at hr6632
    have hP : va_P G.1 vwCl [(h0, .inr (12, [.ref nw, .ref nk, .int mhasKept, .ref nt, .int mtaped, .ref nr, .int mrowMany, .int mroundOf, .int mroundFrom, .int mouts, .ref nm, .int mfromHour, .int mtoHour, .ref ns, .int mfrom, .int mto, .int msort, .int misFault, .int mdeep, .int mcoded, .int mlines, .ref nl, .ref nc, .ref nF, .ref np, .ref ntr, .ref nb, .int mbestCost, .ref nso, .ref nsi, .ref nit, .ref nsh, .ref nsf, .ref nss, .ref nrc, .int (nI jr16634), .int 4, .int mnumber, .int mwhose, .int msize, .int ip16635])), (nrc, .inl (G.2.1, 30, .inl gtrc6636))] H := hP
    have hD : va_D A [(h0, .inr (12, [.ref nw, .ref nk, .int mhasKept, .ref nt, .int mtaped, .ref nr, .int mrowMany, .int mroundOf, .int mroundFrom, .int mouts, .ref nm, .int mfromHour, .int mtoHour, .ref ns, .int mfrom, .int mto, .int msort, .int misFault, .int mdeep, .int mcoded, .int mlines, .ref nl, .ref nc, .ref nF, .ref np, .ref ntr, .ref nb, .int mbestCost, .ref nso, .ref nsi, .ref nit, .ref nsh, .ref nsf, .ref nss, .ref nrc, .int (nI jr16634), .int 4, .int mnumber, .int mwhose, .int msize, .int ip16635])), (nrc, .inl (G.2.1, 30, .inl gtrc6636))] := hD
    obtain ⟨hr6632, w6637⟩ := hr6632
    exact RI (v := r6632) hC hP hD hS [0, 1] (jr16634, ip16635, gtrc6636) rfl rfl (by decide) (⟨trivial, by omega⟩) rfl dX12_dealt_10
  · refine iV (wr := []) hC hK hl hP hD hS hA (m_from53 l G h0 xx nw nk mhasKept nt mtaped nr mrowMany mroundOf mroundFrom mouts nm mfromHour mtoHour ns mfrom mto msort misFault mdeep mcoded mlines nl nc nF np ntr nb mbestCost nso nsi nit nsh nsf nss nrc jr 5 mnumber mwhose msize misParted fnrc (by omega) (by omega)) si_X12_357 [0, 1] [] rfl rfl (by decide) rfl (by decide) (by decide) rfl rfl rfl rfl rfl (Nat.le_of_ble_eq_true rfl) ⟨Nat.le_of_ble_eq_true rfl, Nat.le_of_ble_eq_true rfl⟩ ⟨Nat.le_of_ble_eq_true rfl, Nat.le_of_ble_eq_true rfl⟩ dX12_dealt_7 (fun r6638 u6639 H locs hr6638 hP hD hS => ?_)
    obtain ⟨jr16640, ip16641, gtrc6642⟩ := u6639
    try dsimp only at hr6638
    have hP : va_P G.1 vwCl [(h0, .inr (12, [.ref nw, .ref nk, .int mhasKept, .ref nt, .int mtaped, .ref nr, .int mrowMany, .int mroundOf, .int mroundFrom, .int mouts, .ref nm, .int mfromHour, .int mtoHour, .ref ns, .int mfrom, .int mto, .int msort, .int misFault, .int mdeep, .int mcoded, .int mlines, .ref nl, .ref nc, .ref nF, .ref np, .ref ntr, .ref nb, .int mbestCost, .ref nso, .ref nsi, .ref nit, .ref nsh, .ref nsf, .ref nss, .ref nrc, .int (nI jr16640), .int 5, .int mnumber, .int mwhose, .int msize, .int ip16641])), (nrc, .inl (G.2.1, 30, .inl gtrc6642))] H := hP
    have hD : va_D A [(h0, .inr (12, [.ref nw, .ref nk, .int mhasKept, .ref nt, .int mtaped, .ref nr, .int mrowMany, .int mroundOf, .int mroundFrom, .int mouts, .ref nm, .int mfromHour, .int mtoHour, .ref ns, .int mfrom, .int mto, .int msort, .int misFault, .int mdeep, .int mcoded, .int mlines, .ref nl, .ref nc, .ref nF, .ref np, .ref ntr, .ref nb, .int mbestCost, .ref nso, .ref nsi, .ref nit, .ref nsh, .ref nsf, .ref nss, .ref nrc, .int (nI jr16640), .int 5, .int mnumber, .int mwhose, .int msize, .int ip16641])), (nrc, .inl (G.2.1, 30, .inl gtrc6642))] := hD
    obtain ⟨hr6638, w6643⟩ := hr6638
    exact RI (v := r6638) hC hP hD hS [0, 1] (jr16640, ip16641, gtrc6642) rfl rfl (by decide) (⟨trivial, by omega⟩) rfl dX12_dealt_10
  · refine iV (wr := []) hC hK hl hP hD hS hA (m_from63 l G h0 xx nw nk mhasKept nt mtaped nr mrowMany mroundOf mroundFrom mouts nm mfromHour mtoHour ns mfrom mto msort misFault mdeep mcoded mlines nl nc nF np ntr nb mbestCost nso nsi nit nsh nsf nss nrc jr 6 mnumber mwhose msize misParted fnrc (by omega) (by omega)) si_X12_357 [0, 1] [] rfl rfl (by decide) rfl (by decide) (by decide) rfl rfl rfl rfl rfl (Nat.le_of_ble_eq_true rfl) ⟨Nat.le_of_ble_eq_true rfl, Nat.le_of_ble_eq_true rfl⟩ ⟨Nat.le_of_ble_eq_true rfl, Nat.le_of_ble_eq_true rfl⟩ dX12_dealt_7 (fun r6644 u6645 H locs hr6644 hP hD hS => ?_)
    obtain ⟨jr16646, ip16647, gtrc6648⟩ := u6645
    try dsimp only at hr6644
    have hP : va_P G.1 vwCl [(h0, .inr (12, [.ref nw, .ref nk, .int mhasKept, .ref nt, .int mtaped, .ref nr, .int mrowMany, .int mroundOf, .int mroundFrom, .int mouts, .ref nm, .int mfromHour, .int mtoHour, .ref ns, .int mfrom, .int mto, .int msort, .int misFault, .int mdeep, .int mcoded, .int mlines, .ref nl, .ref nc, .ref nF, .ref np, .ref ntr, .ref nb, .int mbestCost, .ref nso, .ref nsi, .ref nit, .ref nsh, .ref nsf, .ref nss, .ref nrc, .int (nI jr16646), .int 6, .int mnumber, .int mwhose, .int msize, .int ip16647])), (nrc, .inl (G.2.1, 30, .inl gtrc6648))] H := hP
    have hD : va_D A [(h0, .inr (12, [.ref nw, .ref nk, .int mhasKept, .ref nt, .int mtaped, .ref nr, .int mrowMany, .int mroundOf, .int mroundFrom, .int mouts, .ref nm, .int mfromHour, .int mtoHour, .ref ns, .int mfrom, .int mto, .int msort, .int misFault, .int mdeep, .int mcoded, .int mlines, .ref nl, .ref nc, .ref nF, .ref np, .ref ntr, .ref nb, .int mbestCost, .ref nso, .ref nsi, .ref nit, .ref nsh, .ref nsf, .ref nss, .ref nrc, .int (nI jr16646), .int 6, .int mnumber, .int mwhose, .int msize, .int ip16647])), (nrc, .inl (G.2.1, 30, .inl gtrc6648))] := hD
    obtain ⟨hr6644, w6649⟩ := hr6644
    exact RI (v := r6644) hC hP hD hS [0, 1] (jr16646, ip16647, gtrc6648) rfl rfl (by decide) (⟨trivial, by omega⟩) rfl dX12_dealt_10
set_option maxHeartbeats 4000000 in
set_option maxRecDepth 100000 in
theorem w_deal (l : Launch) (G : GG) (h0 : Nat) (x1 : Int32) (x2 : Int32) (x3 : Int32) (nw : Nat) (nk : Nat) (mhasKept : Int32) (nt : Nat) (mtaped : Int32) (nr : Nat) (mrowMany : Int32) (mroundOf : Int32) (mroundFrom : Int32) (mouts : Int32) (nm : Nat) (mfromHour : Int32) (mtoHour : Int32) (ns : Nat) (mfrom : Int32) (mto : Int32) (msort : Int32) (misFault : Int32) (mdeep : Int32) (mcoded : Int32) (mlines : Int32) (nl : Nat) (nc : Nat) (nF : Nat) (np : Nat) (ntr : Nat) (nb : Nat) (mbestCost : Int32) (nso : Nat) (nsi : Nat) (nit : Nat) (nsh : Nat) (nsf : Nat) (nss : Nat) (nrc : Nat) (mtraced : Int32) (mdealer : Int32) (mnumber : Int32) (mwhose : Int32) (msize : Int32) (misParted : Int32) (fnw : Nat → Int32) (fnsh : Nat → Int32) (fnsf : Nat → Int32) (fnrc : Nat → Int32) (hN : NI fnw) : MI l G yX12_deal cX12_deal 8 (some .int) 60 0 0 [.ref h0, .int x1, .int x2, .int x3] [(h0, .inr (12, [.ref nw, .ref nk, .int mhasKept, .ref nt, .int mtaped, .ref nr, .int mrowMany, .int mroundOf, .int mroundFrom, .int mouts, .ref nm, .int mfromHour, .int mtoHour, .ref ns, .int mfrom, .int mto, .int msort, .int misFault, .int mdeep, .int mcoded, .int mlines, .ref nl, .ref nc, .ref nF, .ref np, .ref ntr, .ref nb, .int mbestCost, .ref nso, .ref nsi, .ref nit, .ref nsh, .ref nsf, .ref nss, .ref nrc, .int mtraced, .int mdealer, .int mnumber, .int mwhose, .int msize, .int misParted])), (nw, .inl (G.2.1, 1662, .inl fnw)), (nsh, .inl (G.2.1, 4, .inl fnsh)), (nsf, .inl (G.2.1, 4, .inl fnsf)), (nrc, .inl (G.2.1, 30, .inl fnrc))] (fun (r : Int32) (u : Nat × Int32 × Int32 × Int32 × Int32 × Int32 × (Nat → Int32)) => (True) ∧ (u.1 ≤ 30)) (fun u : Nat × Int32 × Int32 × Int32 × Int32 × Int32 × (Nat → Int32) => [(h0, .inr (12, [.ref nw, .ref nk, .int mhasKept, .ref nt, .int mtaped, .ref nr, .int mrowMany, .int mroundOf, .int mroundFrom, .int mouts, .ref nm, .int mfromHour, .int mtoHour, .ref ns, .int mfrom, .int mto, .int msort, .int misFault, .int mdeep, .int mcoded, .int mlines, .ref nl, .ref nc, .ref nF, .ref np, .ref ntr, .ref nb, .int mbestCost, .ref nso, .ref nsi, .ref nit, .ref nsh, .ref nsf, .ref nss, .ref nrc, .int (nI u.1), .int u.2.1, .int u.2.2.1, .int u.2.2.2.1, .int u.2.2.2.2.1, .int u.2.2.2.2.2.1])), (nw, .inl (G.2.1, 1662, .inl fnw)), (nsh, .inl (G.2.1, 4, .inl fnsh)), (nsf, .inl (G.2.1, 4, .inl fnsf)), (nrc, .inl (G.2.1, 30, .inl u.2.2.2.2.2.2))]) := by
  refine MI.start (by decide +kernel) (Nat.le_of_ble_eq_true rfl) ?_
  intro p e s m below meth c A ls hC hK hP hD hS hA hl
  have hl : lv_has ls 8 [(0, .ref h0), (1, .int x1), (2, .int x2), (3, .int x3)] := hl
  obtain ⟨hx, hb, hr, hml, hB, hown, hlocks, hnm⟩ := id hC
  refine lv_aload_n hx hb dX12_deal_0 rfl (lv_at hl 0 rfl) ?_
  refine lv_iconst (v := 0) hx hb dX12_deal_1 (by decide) ?_
  refine pf_X12_351 hC rfl hK hP hD hS 0 (ws' := [(h0, .inr (12, [.ref nw, .ref nk, .int mhasKept, .ref nt, .int mtaped, .ref nr, .int mrowMany, .int mroundOf, .int mroundFrom, .int mouts, .ref nm, .int mfromHour, .int mtoHour, .ref ns, .int mfrom, .int mto, .int msort, .int misFault, .int mdeep, .int mcoded, .int mlines, .ref nl, .ref nc, .ref nF, .ref np, .ref ntr, .ref nb, .int mbestCost, .ref nso, .ref nsi, .ref nit, .ref nsh, .ref nsf, .ref nss, .ref nrc, .int 0, .int mdealer, .int mnumber, .int mwhose, .int msize, .int misParted])), (nw, .inl (G.2.1, 1662, .inl fnw)), (nsh, .inl (G.2.1, 4, .inl fnsh)), (nsf, .inl (G.2.1, 4, .inl fnsf)), (nrc, .inl (G.2.1, 30, .inl fnrc))]) rfl (Nat.le_of_ble_eq_true rfl) rfl rfl rfl dX12_deal_2 (fun H locs hP hD hS => ?_)
  refine lv_iload_n hx hb dX12_deal_5 rfl (lv_at hl 1 rfl) ?_
  refine pS hC hK hl (m_isFour l G x1) si_X12_336 rfl rfl (Nat.le_of_ble_eq_true rfl) ⟨Nat.le_of_ble_eq_true rfl, Nat.le_of_ble_eq_true rfl⟩ ⟨by first | exact Nat.le_of_ble_eq_true rfl | exact Nat.zero_le _, by first | exact Nat.le_of_ble_eq_true rfl | exact Nat.zero_le _⟩ dX12_deal_6 (fun r6650 hr6650 => ?_)
  rcases hr6650 with ⟨rfl, a6651⟩ | ⟨rfl, a6651⟩
  · refine lv_if_eq (tgt := 19) hx hb dX12_deal_9 (by decide) (fun c9 => absurd c9 (by decide)) (fun _ => ?_)
    refine lv_iload_n hx hb dX12_deal_12 rfl (lv_at hl 2 rfl) ?_
    refine pS hC hK hl (m_isFour l G x2) si_X12_336 rfl rfl (Nat.le_of_ble_eq_true rfl) ⟨Nat.le_of_ble_eq_true rfl, Nat.le_of_ble_eq_true rfl⟩ ⟨by first | exact Nat.le_of_ble_eq_true rfl | exact Nat.zero_le _, by first | exact Nat.le_of_ble_eq_true rfl | exact Nat.zero_le _⟩ dX12_deal_13 (fun r6652 hr6652 => ?_)
    rcases hr6652 with ⟨rfl, a6653⟩ | ⟨rfl, a6653⟩
    · refine lv_if_ne (tgt := 23) hx hb dX12_deal_16 (by decide) (fun _ => ?_) (fun c9 => absurd c9 (by decide))
      obtain ⟨jt, hjt, rfl⟩ := Wi_nat (N := 3) (by decide) a6651
      refine lv_aload_n hx hb dX12_deal_23 rfl (lv_at hl 0 rfl) ?_
      refine lv_iload_n hx hb dX12_deal_24 rfl (lv_at hl 1 rfl) ?_
      refine pV hC hK hl hP hD (m_kindOn l G h0 jt nw nk mhasKept nt mtaped nr mrowMany mroundOf mroundFrom mouts nm mfromHour mtoHour ns mfrom mto msort misFault mdeep mcoded mlines nl nc nF np ntr nb mbestCost nso nsi nit nsh nsf nss nrc 0 mdealer mnumber mwhose msize misParted fnw fnsh fnsf (by omega) (hN)) si_X12_345 [0, 1, 2, 3] rfl rfl (by decide) rfl rfl rfl rfl rfl (Nat.le_of_ble_eq_true rfl) ⟨Nat.le_of_ble_eq_true rfl, Nat.le_of_ble_eq_true rfl⟩ ⟨by first | exact Nat.le_of_ble_eq_true rfl | exact Nat.zero_le _, by first | exact Nat.le_of_ble_eq_true rfl | exact Nat.zero_le _⟩ dX12_deal_25 (fun r6654 hr6654 => ?_)
      rcases hr6654 with rfl | ⟨rfl, a6655⟩ | ⟨rfl, a6655⟩ | ⟨rfl, a6655⟩ | ⟨rfl, a6655⟩ | ⟨rfl, a6655⟩ | ⟨rfl, a6655⟩
      · refine lv_istore (lv' := [(4, .int (-1)), (0, .ref h0), (1, .int (nI jt)), (2, .int x2), (3, .int x3)]) hx hb dX12_deal_28 hl (by decide) rfl (fun ls hl => ?_)
        refine lv_iload hx hb dX12_deal_30 (lv_at hl 0 rfl) ?_
        refine lv_if_ge (tgt := 37) hx hb dX12_deal_32 (by decide) (fun c9 => absurd c9 (by decide)) (fun _ => ?_)
        refine lv_iconst (v := 0) hx hb dX12_deal_35 (by decide) ?_
        exact RI (v := 0) hC hP hD hS [0, 1, 2, 3, 4] (0, mdealer, mnumber, mwhose, msize, misParted, fnrc) rfl rfl (by decide) (⟨trivial, by omega⟩) rfl dX12_deal_36
      · refine lv_istore (lv' := [(4, .int 1), (0, .ref h0), (1, .int (nI jt)), (2, .int x2), (3, .int x3)]) hx hb dX12_deal_28 hl (by decide) rfl (fun ls hl => ?_)
        refine lv_iload hx hb dX12_deal_30 (lv_at hl 0 rfl) ?_
        refine lv_if_ge (tgt := 37) hx hb dX12_deal_32 (by decide) (fun _ => ?_) (fun c9 => absurd (by decide) c9)
        refine lv_aload_n hx hb dX12_deal_37 rfl (lv_at hl 1 rfl) ?_
        refine lv_iload hx hb dX12_deal_38 (lv_at hl 0 rfl) ?_
        refine pf_X12_354 hC rfl hK hP hD hS 0 (ws' := [(h0, .inr (12, [.ref nw, .ref nk, .int mhasKept, .ref nt, .int mtaped, .ref nr, .int mrowMany, .int mroundOf, .int mroundFrom, .int mouts, .ref nm, .int mfromHour, .int mtoHour, .ref ns, .int mfrom, .int mto, .int msort, .int misFault, .int mdeep, .int mcoded, .int mlines, .ref nl, .ref nc, .ref nF, .ref np, .ref ntr, .ref nb, .int mbestCost, .ref nso, .ref nsi, .ref nit, .ref nsh, .ref nsf, .ref nss, .ref nrc, .int 0, .int 1, .int mnumber, .int mwhose, .int msize, .int misParted])), (nw, .inl (G.2.1, 1662, .inl fnw)), (nsh, .inl (G.2.1, 4, .inl fnsh)), (nsf, .inl (G.2.1, 4, .inl fnsf)), (nrc, .inl (G.2.1, 30, .inl fnrc))]) rfl (Nat.le_of_ble_eq_true rfl) rfl rfl rfl dX12_deal_40 (fun H locs hP hD hS => ?_)
        refine lv_aload_n hx hb dX12_deal_43 rfl (lv_at hl 1 rfl) ?_
        refine lv_aload_n hx hb dX12_deal_44 rfl (lv_at hl 1 rfl) ?_
        refine gf_X12_75 hC rfl hK hP 0 rfl rfl dX12_deal_45 ?_
        refine lv_iload_n hx hb dX12_deal_48 rfl (lv_at hl 2 rfl) ?_
        refine ald hC hK hP 3 rfl (vp_in_nI (by omega) (by omega)) (k := jt) (nI_clamp (by omega)) (v := fnsf jt) rfl dX12_deal_49 ?_
        refine lv_topi (fun x6656 ex6656 => ?_)
        obtain ⟨hko9, jno, hjno, ejno⟩ := a6655
        refine eqi (x1 := nI jno) (ex6656.trans ejno) ?_
        refine pf_X12_378 hC rfl hK hP hD hS 0 (ws' := [(h0, .inr (12, [.ref nw, .ref nk, .int mhasKept, .ref nt, .int mtaped, .ref nr, .int mrowMany, .int mroundOf, .int mroundFrom, .int mouts, .ref nm, .int mfromHour, .int mtoHour, .ref ns, .int mfrom, .int mto, .int msort, .int misFault, .int mdeep, .int mcoded, .int mlines, .ref nl, .ref nc, .ref nF, .ref np, .ref ntr, .ref nb, .int mbestCost, .ref nso, .ref nsi, .ref nit, .ref nsh, .ref nsf, .ref nss, .ref nrc, .int 0, .int 1, .int (nI jno), .int mwhose, .int msize, .int misParted])), (nw, .inl (G.2.1, 1662, .inl fnw)), (nsh, .inl (G.2.1, 4, .inl fnsh)), (nsf, .inl (G.2.1, 4, .inl fnsf)), (nrc, .inl (G.2.1, 30, .inl fnrc))]) rfl (Nat.le_of_ble_eq_true rfl) rfl rfl rfl dX12_deal_50 (fun H locs hP hD hS => ?_)
        refine lv_aload_n hx hb dX12_deal_53 rfl (lv_at hl 1 rfl) ?_
        refine gf_X12_72 hC rfl hK hP 0 rfl rfl dX12_deal_54 ?_
        refine lv_iload_n hx hb dX12_deal_57 rfl (lv_at hl 2 rfl) ?_
        refine ald hC hK hP 2 rfl (vp_in_nI (by omega) (by omega)) (k := jt) (nI_clamp (by omega)) (v := fnsh jt) rfl dX12_deal_58 ?_
        refine lv_topi (fun x6657 ex6657 => ?_)
        refine lv_iconst (v := 1) hx hb dX12_deal_59 (by decide) ?_
        refine lv_icmp_ne (tgt := 67) hx hb dX12_deal_60 (by decide) (fun c9 => absurd (ex6657.trans hko9) c9) (fun _ => ?_)
        refine lv_iconst (v := 1) hx hb dX12_deal_63 (by decide) ?_
        refine lv_goto (tgt := 68) hx hb dX12_deal_64 (by decide) ?_
        refine lv_istore (lv' := [(5, .int 1), (4, .int 1), (0, .ref h0), (1, .int (nI jt)), (2, .int x2), (3, .int x3)]) hx hb dX12_deal_68 hl (by decide) rfl (fun ls hl => ?_)
        refine lv_aload_n hx hb dX12_deal_70 rfl (lv_at hl 2 rfl) ?_
        refine gf_X12_72 hC rfl hK hP 0 rfl rfl dX12_deal_71 ?_
        refine lv_iload_n hx hb dX12_deal_74 rfl (lv_at hl 3 rfl) ?_
        refine ald hC hK hP 2 rfl (vp_in_nI (by omega) (by omega)) (k := jt) (nI_clamp (by omega)) (v := fnsh jt) rfl dX12_deal_75 ?_
        refine lv_topi (fun x6658 ex6658 => ?_)
        refine lv_iconst (v := 2) hx hb dX12_deal_76 (by decide) ?_
        refine lv_icmp_ne (tgt := 84) hx hb dX12_deal_77 (by decide) (fun _ => ?_) (fun c9 => absurd c9 (fun h9 => absurd (hko9.symm.trans ((ex6658.symm).trans h9)) (by decide)))
        refine lv_iconst (v := 0) hx hb dX12_deal_84 (by decide) ?_
        refine lv_istore (lv' := [(6, .int 0), (5, .int 1), (4, .int 1), (0, .ref h0), (1, .int (nI jt)), (2, .int x2), (3, .int x3)]) hx hb dX12_deal_85 hl (by decide) rfl (fun ls hl => ?_)
        refine lv_aload_n hx hb dX12_deal_87 rfl (lv_at hl 3 rfl) ?_
        refine lv_iload hx hb dX12_deal_88 (lv_at hl 1 rfl) ?_
        refine lv_if_eq (tgt := 105) hx hb dX12_deal_90 (by decide) (fun c9 => absurd c9 (by decide)) (fun _ => ?_)
        refine lv_aload_n hx hb dX12_deal_93 rfl (lv_at hl 3 rfl) ?_
        refine lv_aload_n hx hb dX12_deal_94 rfl (lv_at hl 3 rfl) ?_
        refine gf_X12_378 hC rfl hK hP 0 rfl rfl dX12_deal_95 ?_
        refine lv_iconst (v := 0) hx hb dX12_deal_98 (by decide) ?_
        refine pV hC hK hl hP hD (m_paper l G h0 jno 0 nw nk mhasKept nt mtaped nr mrowMany mroundOf mroundFrom mouts nm mfromHour mtoHour ns mfrom mto msort misFault mdeep mcoded mlines nl nc nF np ntr nb mbestCost nso nsi nit nsh nsf nss nrc 0 1 (nI jno) mwhose msize misParted fnw (by omega) (by omega)) si_X12_88 [0, 1] rfl rfl (by decide) rfl rfl rfl rfl rfl (Nat.le_of_ble_eq_true rfl) ⟨Nat.le_of_ble_eq_true rfl, Nat.le_of_ble_eq_true rfl⟩ ⟨by first | exact Nat.le_of_ble_eq_true rfl | exact Nat.zero_le _, by first | exact Nat.le_of_ble_eq_true rfl | exact Nat.zero_le _⟩ dX12_deal_99 (fun r6659 hr6659 => ?_)
        obtain rfl := hr6659
        refine lv_goto (tgt := 139) hx hb dX12_deal_102 (by decide) ?_
        refine pf_X12_375 hC rfl hK hP hD hS 0 (ws' := [(h0, .inr (12, [.ref nw, .ref nk, .int mhasKept, .ref nt, .int mtaped, .ref nr, .int mrowMany, .int mroundOf, .int mroundFrom, .int mouts, .ref nm, .int mfromHour, .int mtoHour, .ref ns, .int mfrom, .int mto, .int msort, .int misFault, .int mdeep, .int mcoded, .int mlines, .ref nl, .ref nc, .ref nF, .ref np, .ref ntr, .ref nb, .int mbestCost, .ref nso, .ref nsi, .ref nit, .ref nsh, .ref nsf, .ref nss, .ref nrc, .int 0, .int 1, .int (nI jno), .int (fnw (32 + 6 * jno + 0)), .int msize, .int misParted])), (nw, .inl (G.2.1, 1662, .inl fnw)), (nsh, .inl (G.2.1, 4, .inl fnsh)), (nsf, .inl (G.2.1, 4, .inl fnsf)), (nrc, .inl (G.2.1, 30, .inl fnrc))]) rfl (Nat.le_of_ble_eq_true rfl) rfl rfl rfl dX12_deal_139 (fun H locs hP hD hS => ?_)
        refine lv_aload_n hx hb dX12_deal_142 rfl (lv_at hl 3 rfl) ?_
        refine lv_iload hx hb dX12_deal_143 (lv_at hl 1 rfl) ?_
        refine lv_if_eq (tgt := 160) hx hb dX12_deal_145 (by decide) (fun c9 => absurd c9 (by decide)) (fun _ => ?_)
        refine lv_aload_n hx hb dX12_deal_148 rfl (lv_at hl 3 rfl) ?_
        refine lv_aload_n hx hb dX12_deal_149 rfl (lv_at hl 3 rfl) ?_
        refine gf_X12_378 hC rfl hK hP 0 rfl rfl dX12_deal_150 ?_
        refine lv_iconst (v := 2) hx hb dX12_deal_153 (by decide) ?_
        refine pV hC hK hl hP hD (m_paper l G h0 jno 2 nw nk mhasKept nt mtaped nr mrowMany mroundOf mroundFrom mouts nm mfromHour mtoHour ns mfrom mto msort misFault mdeep mcoded mlines nl nc nF np ntr nb mbestCost nso nsi nit nsh nsf nss nrc 0 1 (nI jno) (fnw (32 + 6 * jno + 0)) msize misParted fnw (by omega) (by omega)) si_X12_88 [0, 1] rfl rfl (by decide) rfl rfl rfl rfl rfl (Nat.le_of_ble_eq_true rfl) ⟨Nat.le_of_ble_eq_true rfl, Nat.le_of_ble_eq_true rfl⟩ ⟨by first | exact Nat.le_of_ble_eq_true rfl | exact Nat.zero_le _, by first | exact Nat.le_of_ble_eq_true rfl | exact Nat.zero_le _⟩ dX12_deal_154 (fun r6661 hr6661 => ?_)
        obtain rfl := hr6661
        refine lv_goto (tgt := 194) hx hb dX12_deal_157 (by decide) ?_
        refine pf_X12_369 hC rfl hK hP hD hS 0 (ws' := [(h0, .inr (12, [.ref nw, .ref nk, .int mhasKept, .ref nt, .int mtaped, .ref nr, .int mrowMany, .int mroundOf, .int mroundFrom, .int mouts, .ref nm, .int mfromHour, .int mtoHour, .ref ns, .int mfrom, .int mto, .int msort, .int misFault, .int mdeep, .int mcoded, .int mlines, .ref nl, .ref nc, .ref nF, .ref np, .ref ntr, .ref nb, .int mbestCost, .ref nso, .ref nsi, .ref nit, .ref nsh, .ref nsf, .ref nss, .ref nrc, .int 0, .int 1, .int (nI jno), .int (fnw (32 + 6 * jno + 0)), .int (fnw (32 + 6 * jno + 2)), .int misParted])), (nw, .inl (G.2.1, 1662, .inl fnw)), (nsh, .inl (G.2.1, 4, .inl fnsh)), (nsf, .inl (G.2.1, 4, .inl fnsf)), (nrc, .inl (G.2.1, 30, .inl fnrc))]) rfl (Nat.le_of_ble_eq_true rfl) rfl rfl rfl dX12_deal_194 (fun H locs hP hD hS => ?_)
        refine lv_aload_n hx hb dX12_deal_197 rfl (lv_at hl 3 rfl) ?_
        refine lv_iconst (v := 0) hx hb dX12_deal_198 (by decide) ?_
        refine pf_X12_380 hC rfl hK hP hD hS 0 (ws' := [(h0, .inr (12, [.ref nw, .ref nk, .int mhasKept, .ref nt, .int mtaped, .ref nr, .int mrowMany, .int mroundOf, .int mroundFrom, .int mouts, .ref nm, .int mfromHour, .int mtoHour, .ref ns, .int mfrom, .int mto, .int msort, .int misFault, .int mdeep, .int mcoded, .int mlines, .ref nl, .ref nc, .ref nF, .ref np, .ref ntr, .ref nb, .int mbestCost, .ref nso, .ref nsi, .ref nit, .ref nsh, .ref nsf, .ref nss, .ref nrc, .int 0, .int 1, .int (nI jno), .int (fnw (32 + 6 * jno + 0)), .int (fnw (32 + 6 * jno + 2)), .int 0])), (nw, .inl (G.2.1, 1662, .inl fnw)), (nsh, .inl (G.2.1, 4, .inl fnsh)), (nsf, .inl (G.2.1, 4, .inl fnsf)), (nrc, .inl (G.2.1, 30, .inl fnrc))]) rfl (Nat.le_of_ble_eq_true rfl) rfl (by decide +kernel) (by decide +kernel) dX12_deal_199 (fun H locs hP hD hS => ?_)
        obtain ⟨jdl, hjdl, rfl⟩ := Wi_nat (N := 3) (by decide) a6653
        rcases (show jdl = 0 ∨ jdl = 1 ∨ jdl = 2 ∨ jdl = 3 by omega) with rfl | rfl | rfl | rfl
        · refine lv_aload_n hx hb dX12_deal_202 rfl (lv_at hl 3 rfl) ?_
          refine lv_iload_n hx hb dX12_deal_203 rfl (lv_at hl 5 rfl) ?_
          refine lv_iload_n hx hb dX12_deal_204 rfl (lv_at hl 6 rfl) ?_
          refine iV (wr := [(nw, .inl (G.2.1, 1662, .inl fnw)), (nsh, .inl (G.2.1, 4, .inl fnsh)), (nsf, .inl (G.2.1, 4, .inl fnsf))]) hC hK hl hP hD hS hA (m_dealt0 l G h0 x3 nw nk mhasKept nt mtaped nr mrowMany mroundOf mroundFrom mouts nm mfromHour mtoHour ns mfrom mto msort misFault mdeep mcoded mlines nl nc nF np ntr nb mbestCost nso nsi nit nsh nsf nss nrc 0 1 (nI jno) (fnw (32 + 6 * jno + 0)) (fnw (32 + 6 * jno + 2)) 0 fnrc (by omega) (by omega)) si_X12_372 [0, 4] [1, 2, 3] rfl rfl (by decide) rfl (by decide) (by decide) rfl rfl rfl rfl rfl (Nat.le_of_ble_eq_true rfl) ⟨Nat.le_of_ble_eq_true rfl, Nat.le_of_ble_eq_true rfl⟩ ⟨Nat.le_of_ble_eq_true rfl, Nat.le_of_ble_eq_true rfl⟩ dX12_deal_205 (fun r6663 u6664 H locs hr6663 hP hD hS => ?_)
          obtain ⟨jr16665, ip16666, gtrc6667⟩ := u6664
          try dsimp only at hr6663
          have hP : va_P G.1 vwCl [(nw, .inl (G.2.1, 1662, .inl fnw)), (nsh, .inl (G.2.1, 4, .inl fnsh)), (nsf, .inl (G.2.1, 4, .inl fnsf)), (h0, .inr (12, [.ref nw, .ref nk, .int mhasKept, .ref nt, .int mtaped, .ref nr, .int mrowMany, .int mroundOf, .int mroundFrom, .int mouts, .ref nm, .int mfromHour, .int mtoHour, .ref ns, .int mfrom, .int mto, .int msort, .int misFault, .int mdeep, .int mcoded, .int mlines, .ref nl, .ref nc, .ref nF, .ref np, .ref ntr, .ref nb, .int mbestCost, .ref nso, .ref nsi, .ref nit, .ref nsh, .ref nsf, .ref nss, .ref nrc, .int (nI jr16665), .int 1, .int (nI jno), .int (fnw (32 + 6 * jno + 0)), .int (fnw (32 + 6 * jno + 2)), .int ip16666])), (nrc, .inl (G.2.1, 30, .inl gtrc6667))] H := hP
          have hD : va_D A [(nw, .inl (G.2.1, 1662, .inl fnw)), (nsh, .inl (G.2.1, 4, .inl fnsh)), (nsf, .inl (G.2.1, 4, .inl fnsf)), (h0, .inr (12, [.ref nw, .ref nk, .int mhasKept, .ref nt, .int mtaped, .ref nr, .int mrowMany, .int mroundOf, .int mroundFrom, .int mouts, .ref nm, .int mfromHour, .int mtoHour, .ref ns, .int mfrom, .int mto, .int msort, .int misFault, .int mdeep, .int mcoded, .int mlines, .ref nl, .ref nc, .ref nF, .ref np, .ref ntr, .ref nb, .int mbestCost, .ref nso, .ref nsi, .ref nit, .ref nsh, .ref nsf, .ref nss, .ref nrc, .int (nI jr16665), .int 1, .int (nI jno), .int (fnw (32 + 6 * jno + 0)), .int (fnw (32 + 6 * jno + 2)), .int ip16666])), (nrc, .inl (G.2.1, 30, .inl gtrc6667))] := hD
          obtain ⟨hr6663, w6668⟩ := hr6663
          refine lv_istore (lv' := [(7, .int r6663), (6, .int 0), (5, .int 1), (4, .int 1), (0, .ref h0), (1, .int (nI jt)), (2, .int 0), (3, .int x3)]) hx hb dX12_deal_208 hl (by decide) rfl (fun ls hl => ?_)
          refine lv_aload_n hx hb dX12_deal_210 rfl (lv_at hl 4 rfl) ?_
          refine gf_X12_380 hC rfl hK hP 3 rfl rfl dX12_deal_211 ?_
          refine lv_if_eq (tgt := 222) hx hb dX12_deal_214 (by decide) (fun c_214_6669 => ?_) (fun c_214_6669 => ?_)
          · refine lv_iload hx hb dX12_deal_222 (lv_at hl 0 rfl) ?_
            exact RI (v := r6663) hC hP hD hS [3, 0, 1, 2, 4] (jr16665, 1, nI jno, fnw (32 + 6 * jno + 0), fnw (32 + 6 * jno + 2), ip16666, gtrc6667) rfl rfl (by decide) (⟨trivial, by omega⟩) rfl dX12_deal_224
          · refine lv_bipush (v := (-15)) hx hb dX12_deal_217 (by decide) ?_
            refine lv_goto (tgt := 224) hx hb dX12_deal_219 (by decide) ?_
            exact RI (v := (-15)) hC hP hD hS [3, 0, 1, 2, 4] (jr16665, 1, nI jno, fnw (32 + 6 * jno + 0), fnw (32 + 6 * jno + 2), ip16666, gtrc6667) rfl rfl (by decide) (⟨trivial, by omega⟩) rfl dX12_deal_224
        · refine lv_aload_n hx hb dX12_deal_202 rfl (lv_at hl 3 rfl) ?_
          refine lv_iload_n hx hb dX12_deal_203 rfl (lv_at hl 5 rfl) ?_
          refine lv_iload_n hx hb dX12_deal_204 rfl (lv_at hl 6 rfl) ?_
          refine iV (wr := [(nw, .inl (G.2.1, 1662, .inl fnw)), (nsh, .inl (G.2.1, 4, .inl fnsh)), (nsf, .inl (G.2.1, 4, .inl fnsf))]) hC hK hl hP hD hS hA (m_dealt1 l G h0 x3 nw nk mhasKept nt mtaped nr mrowMany mroundOf mroundFrom mouts nm mfromHour mtoHour ns mfrom mto msort misFault mdeep mcoded mlines nl nc nF np ntr nb mbestCost nso nsi nit nsh nsf nss nrc 0 1 (nI jno) (fnw (32 + 6 * jno + 0)) (fnw (32 + 6 * jno + 2)) 0 fnrc (by omega) (by omega)) si_X12_372 [0, 4] [1, 2, 3] rfl rfl (by decide) rfl (by decide) (by decide) rfl rfl rfl rfl rfl (Nat.le_of_ble_eq_true rfl) ⟨Nat.le_of_ble_eq_true rfl, Nat.le_of_ble_eq_true rfl⟩ ⟨Nat.le_of_ble_eq_true rfl, Nat.le_of_ble_eq_true rfl⟩ dX12_deal_205 (fun r6670 u6671 H locs hr6670 hP hD hS => ?_)
          obtain ⟨jr16672, ip16673, gtrc6674⟩ := u6671
          try dsimp only at hr6670
          have hP : va_P G.1 vwCl [(nw, .inl (G.2.1, 1662, .inl fnw)), (nsh, .inl (G.2.1, 4, .inl fnsh)), (nsf, .inl (G.2.1, 4, .inl fnsf)), (h0, .inr (12, [.ref nw, .ref nk, .int mhasKept, .ref nt, .int mtaped, .ref nr, .int mrowMany, .int mroundOf, .int mroundFrom, .int mouts, .ref nm, .int mfromHour, .int mtoHour, .ref ns, .int mfrom, .int mto, .int msort, .int misFault, .int mdeep, .int mcoded, .int mlines, .ref nl, .ref nc, .ref nF, .ref np, .ref ntr, .ref nb, .int mbestCost, .ref nso, .ref nsi, .ref nit, .ref nsh, .ref nsf, .ref nss, .ref nrc, .int (nI jr16672), .int 1, .int (nI jno), .int (fnw (32 + 6 * jno + 0)), .int (fnw (32 + 6 * jno + 2)), .int ip16673])), (nrc, .inl (G.2.1, 30, .inl gtrc6674))] H := hP
          have hD : va_D A [(nw, .inl (G.2.1, 1662, .inl fnw)), (nsh, .inl (G.2.1, 4, .inl fnsh)), (nsf, .inl (G.2.1, 4, .inl fnsf)), (h0, .inr (12, [.ref nw, .ref nk, .int mhasKept, .ref nt, .int mtaped, .ref nr, .int mrowMany, .int mroundOf, .int mroundFrom, .int mouts, .ref nm, .int mfromHour, .int mtoHour, .ref ns, .int mfrom, .int mto, .int msort, .int misFault, .int mdeep, .int mcoded, .int mlines, .ref nl, .ref nc, .ref nF, .ref np, .ref ntr, .ref nb, .int mbestCost, .ref nso, .ref nsi, .ref nit, .ref nsh, .ref nsf, .ref nss, .ref nrc, .int (nI jr16672), .int 1, .int (nI jno), .int (fnw (32 + 6 * jno + 0)), .int (fnw (32 + 6 * jno + 2)), .int ip16673])), (nrc, .inl (G.2.1, 30, .inl gtrc6674))] := hD
          obtain ⟨hr6670, w6675⟩ := hr6670
          refine lv_istore (lv' := [(7, .int r6670), (6, .int 0), (5, .int 1), (4, .int 1), (0, .ref h0), (1, .int (nI jt)), (2, .int 1), (3, .int x3)]) hx hb dX12_deal_208 hl (by decide) rfl (fun ls hl => ?_)
          refine lv_aload_n hx hb dX12_deal_210 rfl (lv_at hl 4 rfl) ?_
          refine gf_X12_380 hC rfl hK hP 3 rfl rfl dX12_deal_211 ?_
          refine lv_if_eq (tgt := 222) hx hb dX12_deal_214 (by decide) (fun c_214_6676 => ?_) (fun c_214_6676 => ?_)
          · refine lv_iload hx hb dX12_deal_222 (lv_at hl 0 rfl) ?_
            exact RI (v := r6670) hC hP hD hS [3, 0, 1, 2, 4] (jr16672, 1, nI jno, fnw (32 + 6 * jno + 0), fnw (32 + 6 * jno + 2), ip16673, gtrc6674) rfl rfl (by decide) (⟨trivial, by omega⟩) rfl dX12_deal_224
          · refine lv_bipush (v := (-15)) hx hb dX12_deal_217 (by decide) ?_
            refine lv_goto (tgt := 224) hx hb dX12_deal_219 (by decide) ?_
            exact RI (v := (-15)) hC hP hD hS [3, 0, 1, 2, 4] (jr16672, 1, nI jno, fnw (32 + 6 * jno + 0), fnw (32 + 6 * jno + 2), ip16673, gtrc6674) rfl rfl (by decide) (⟨trivial, by omega⟩) rfl dX12_deal_224
        · refine lv_aload_n hx hb dX12_deal_202 rfl (lv_at hl 3 rfl) ?_
          refine lv_iload_n hx hb dX12_deal_203 rfl (lv_at hl 5 rfl) ?_
          refine lv_iload_n hx hb dX12_deal_204 rfl (lv_at hl 6 rfl) ?_
          refine iV (wr := [(nw, .inl (G.2.1, 1662, .inl fnw)), (nsh, .inl (G.2.1, 4, .inl fnsh)), (nsf, .inl (G.2.1, 4, .inl fnsf))]) hC hK hl hP hD hS hA (m_dealt2 l G h0 x3 nw nk mhasKept nt mtaped nr mrowMany mroundOf mroundFrom mouts nm mfromHour mtoHour ns mfrom mto msort misFault mdeep mcoded mlines nl nc nF np ntr nb mbestCost nso nsi nit nsh nsf nss nrc 0 1 (nI jno) (fnw (32 + 6 * jno + 0)) (fnw (32 + 6 * jno + 2)) 0 fnrc (by omega) (by omega)) si_X12_372 [0, 4] [1, 2, 3] rfl rfl (by decide) rfl (by decide) (by decide) rfl rfl rfl rfl rfl (Nat.le_of_ble_eq_true rfl) ⟨Nat.le_of_ble_eq_true rfl, Nat.le_of_ble_eq_true rfl⟩ ⟨Nat.le_of_ble_eq_true rfl, Nat.le_of_ble_eq_true rfl⟩ dX12_deal_205 (fun r6677 u6678 H locs hr6677 hP hD hS => ?_)
          obtain ⟨jr16679, ip16680, gtrc6681⟩ := u6678
          try dsimp only at hr6677
          have hP : va_P G.1 vwCl [(nw, .inl (G.2.1, 1662, .inl fnw)), (nsh, .inl (G.2.1, 4, .inl fnsh)), (nsf, .inl (G.2.1, 4, .inl fnsf)), (h0, .inr (12, [.ref nw, .ref nk, .int mhasKept, .ref nt, .int mtaped, .ref nr, .int mrowMany, .int mroundOf, .int mroundFrom, .int mouts, .ref nm, .int mfromHour, .int mtoHour, .ref ns, .int mfrom, .int mto, .int msort, .int misFault, .int mdeep, .int mcoded, .int mlines, .ref nl, .ref nc, .ref nF, .ref np, .ref ntr, .ref nb, .int mbestCost, .ref nso, .ref nsi, .ref nit, .ref nsh, .ref nsf, .ref nss, .ref nrc, .int (nI jr16679), .int 1, .int (nI jno), .int (fnw (32 + 6 * jno + 0)), .int (fnw (32 + 6 * jno + 2)), .int ip16680])), (nrc, .inl (G.2.1, 30, .inl gtrc6681))] H := hP
          have hD : va_D A [(nw, .inl (G.2.1, 1662, .inl fnw)), (nsh, .inl (G.2.1, 4, .inl fnsh)), (nsf, .inl (G.2.1, 4, .inl fnsf)), (h0, .inr (12, [.ref nw, .ref nk, .int mhasKept, .ref nt, .int mtaped, .ref nr, .int mrowMany, .int mroundOf, .int mroundFrom, .int mouts, .ref nm, .int mfromHour, .int mtoHour, .ref ns, .int mfrom, .int mto, .int msort, .int misFault, .int mdeep, .int mcoded, .int mlines, .ref nl, .ref nc, .ref nF, .ref np, .ref ntr, .ref nb, .int mbestCost, .ref nso, .ref nsi, .ref nit, .ref nsh, .ref nsf, .ref nss, .ref nrc, .int (nI jr16679), .int 1, .int (nI jno), .int (fnw (32 + 6 * jno + 0)), .int (fnw (32 + 6 * jno + 2)), .int ip16680])), (nrc, .inl (G.2.1, 30, .inl gtrc6681))] := hD
          obtain ⟨hr6677, w6682⟩ := hr6677
          refine lv_istore (lv' := [(7, .int r6677), (6, .int 0), (5, .int 1), (4, .int 1), (0, .ref h0), (1, .int (nI jt)), (2, .int 2), (3, .int x3)]) hx hb dX12_deal_208 hl (by decide) rfl (fun ls hl => ?_)
          refine lv_aload_n hx hb dX12_deal_210 rfl (lv_at hl 4 rfl) ?_
          refine gf_X12_380 hC rfl hK hP 3 rfl rfl dX12_deal_211 ?_
          refine lv_if_eq (tgt := 222) hx hb dX12_deal_214 (by decide) (fun c_214_6683 => ?_) (fun c_214_6683 => ?_)
          · refine lv_iload hx hb dX12_deal_222 (lv_at hl 0 rfl) ?_
            exact RI (v := r6677) hC hP hD hS [3, 0, 1, 2, 4] (jr16679, 1, nI jno, fnw (32 + 6 * jno + 0), fnw (32 + 6 * jno + 2), ip16680, gtrc6681) rfl rfl (by decide) (⟨trivial, by omega⟩) rfl dX12_deal_224
          · refine lv_bipush (v := (-15)) hx hb dX12_deal_217 (by decide) ?_
            refine lv_goto (tgt := 224) hx hb dX12_deal_219 (by decide) ?_
            exact RI (v := (-15)) hC hP hD hS [3, 0, 1, 2, 4] (jr16679, 1, nI jno, fnw (32 + 6 * jno + 0), fnw (32 + 6 * jno + 2), ip16680, gtrc6681) rfl rfl (by decide) (⟨trivial, by omega⟩) rfl dX12_deal_224
        · refine lv_aload_n hx hb dX12_deal_202 rfl (lv_at hl 3 rfl) ?_
          refine lv_iload_n hx hb dX12_deal_203 rfl (lv_at hl 5 rfl) ?_
          refine lv_iload_n hx hb dX12_deal_204 rfl (lv_at hl 6 rfl) ?_
          refine iV (wr := [(nw, .inl (G.2.1, 1662, .inl fnw)), (nsh, .inl (G.2.1, 4, .inl fnsh)), (nsf, .inl (G.2.1, 4, .inl fnsf))]) hC hK hl hP hD hS hA (m_dealt3 l G h0 x3 nw nk mhasKept nt mtaped nr mrowMany mroundOf mroundFrom mouts nm mfromHour mtoHour ns mfrom mto msort misFault mdeep mcoded mlines nl nc nF np ntr nb mbestCost nso nsi nit nsh nsf nss nrc 0 1 (nI jno) (fnw (32 + 6 * jno + 0)) (fnw (32 + 6 * jno + 2)) 0 fnrc (by omega) (by omega)) si_X12_372 [0, 4] [1, 2, 3] rfl rfl (by decide) rfl (by decide) (by decide) rfl rfl rfl rfl rfl (Nat.le_of_ble_eq_true rfl) ⟨Nat.le_of_ble_eq_true rfl, Nat.le_of_ble_eq_true rfl⟩ ⟨Nat.le_of_ble_eq_true rfl, Nat.le_of_ble_eq_true rfl⟩ dX12_deal_205 (fun r6684 u6685 H locs hr6684 hP hD hS => ?_)
          obtain ⟨jr16686, ip16687, gtrc6688⟩ := u6685
          try dsimp only at hr6684
          have hP : va_P G.1 vwCl [(nw, .inl (G.2.1, 1662, .inl fnw)), (nsh, .inl (G.2.1, 4, .inl fnsh)), (nsf, .inl (G.2.1, 4, .inl fnsf)), (h0, .inr (12, [.ref nw, .ref nk, .int mhasKept, .ref nt, .int mtaped, .ref nr, .int mrowMany, .int mroundOf, .int mroundFrom, .int mouts, .ref nm, .int mfromHour, .int mtoHour, .ref ns, .int mfrom, .int mto, .int msort, .int misFault, .int mdeep, .int mcoded, .int mlines, .ref nl, .ref nc, .ref nF, .ref np, .ref ntr, .ref nb, .int mbestCost, .ref nso, .ref nsi, .ref nit, .ref nsh, .ref nsf, .ref nss, .ref nrc, .int (nI jr16686), .int 1, .int (nI jno), .int (fnw (32 + 6 * jno + 0)), .int (fnw (32 + 6 * jno + 2)), .int ip16687])), (nrc, .inl (G.2.1, 30, .inl gtrc6688))] H := hP
          have hD : va_D A [(nw, .inl (G.2.1, 1662, .inl fnw)), (nsh, .inl (G.2.1, 4, .inl fnsh)), (nsf, .inl (G.2.1, 4, .inl fnsf)), (h0, .inr (12, [.ref nw, .ref nk, .int mhasKept, .ref nt, .int mtaped, .ref nr, .int mrowMany, .int mroundOf, .int mroundFrom, .int mouts, .ref nm, .int mfromHour, .int mtoHour, .ref ns, .int mfrom, .int mto, .int msort, .int misFault, .int mdeep, .int mcoded, .int mlines, .ref nl, .ref nc, .ref nF, .ref np, .ref ntr, .ref nb, .int mbestCost, .ref nso, .ref nsi, .ref nit, .ref nsh, .ref nsf, .ref nss, .ref nrc, .int (nI jr16686), .int 1, .int (nI jno), .int (fnw (32 + 6 * jno + 0)), .int (fnw (32 + 6 * jno + 2)), .int ip16687])), (nrc, .inl (G.2.1, 30, .inl gtrc6688))] := hD
          obtain ⟨hr6684, w6689⟩ := hr6684
          refine lv_istore (lv' := [(7, .int r6684), (6, .int 0), (5, .int 1), (4, .int 1), (0, .ref h0), (1, .int (nI jt)), (2, .int 3), (3, .int x3)]) hx hb dX12_deal_208 hl (by decide) rfl (fun ls hl => ?_)
          refine lv_aload_n hx hb dX12_deal_210 rfl (lv_at hl 4 rfl) ?_
          refine gf_X12_380 hC rfl hK hP 3 rfl rfl dX12_deal_211 ?_
          refine lv_if_eq (tgt := 222) hx hb dX12_deal_214 (by decide) (fun c_214_6690 => ?_) (fun c_214_6690 => ?_)
          · refine lv_iload hx hb dX12_deal_222 (lv_at hl 0 rfl) ?_
            exact RI (v := r6684) hC hP hD hS [3, 0, 1, 2, 4] (jr16686, 1, nI jno, fnw (32 + 6 * jno + 0), fnw (32 + 6 * jno + 2), ip16687, gtrc6688) rfl rfl (by decide) (⟨trivial, by omega⟩) rfl dX12_deal_224
          · refine lv_bipush (v := (-15)) hx hb dX12_deal_217 (by decide) ?_
            refine lv_goto (tgt := 224) hx hb dX12_deal_219 (by decide) ?_
            exact RI (v := (-15)) hC hP hD hS [3, 0, 1, 2, 4] (jr16686, 1, nI jno, fnw (32 + 6 * jno + 0), fnw (32 + 6 * jno + 2), ip16687, gtrc6688) rfl rfl (by decide) (⟨trivial, by omega⟩) rfl dX12_deal_224
      · refine lv_istore (lv' := [(4, .int 2), (0, .ref h0), (1, .int (nI jt)), (2, .int x2), (3, .int x3)]) hx hb dX12_deal_28 hl (by decide) rfl (fun ls hl => ?_)
        refine lv_iload hx hb dX12_deal_30 (lv_at hl 0 rfl) ?_
        refine lv_if_ge (tgt := 37) hx hb dX12_deal_32 (by decide) (fun _ => ?_) (fun c9 => absurd (by decide) c9)
        refine lv_aload_n hx hb dX12_deal_37 rfl (lv_at hl 1 rfl) ?_
        refine lv_iload hx hb dX12_deal_38 (lv_at hl 0 rfl) ?_
        refine pf_X12_354 hC rfl hK hP hD hS 0 (ws' := [(h0, .inr (12, [.ref nw, .ref nk, .int mhasKept, .ref nt, .int mtaped, .ref nr, .int mrowMany, .int mroundOf, .int mroundFrom, .int mouts, .ref nm, .int mfromHour, .int mtoHour, .ref ns, .int mfrom, .int mto, .int msort, .int misFault, .int mdeep, .int mcoded, .int mlines, .ref nl, .ref nc, .ref nF, .ref np, .ref ntr, .ref nb, .int mbestCost, .ref nso, .ref nsi, .ref nit, .ref nsh, .ref nsf, .ref nss, .ref nrc, .int 0, .int 2, .int mnumber, .int mwhose, .int msize, .int misParted])), (nw, .inl (G.2.1, 1662, .inl fnw)), (nsh, .inl (G.2.1, 4, .inl fnsh)), (nsf, .inl (G.2.1, 4, .inl fnsf)), (nrc, .inl (G.2.1, 30, .inl fnrc))]) rfl (Nat.le_of_ble_eq_true rfl) rfl rfl rfl dX12_deal_40 (fun H locs hP hD hS => ?_)
        refine lv_aload_n hx hb dX12_deal_43 rfl (lv_at hl 1 rfl) ?_
        refine lv_aload_n hx hb dX12_deal_44 rfl (lv_at hl 1 rfl) ?_
        refine gf_X12_75 hC rfl hK hP 0 rfl rfl dX12_deal_45 ?_
        refine lv_iload_n hx hb dX12_deal_48 rfl (lv_at hl 2 rfl) ?_
        refine ald hC hK hP 3 rfl (vp_in_nI (by omega) (by omega)) (k := jt) (nI_clamp (by omega)) (v := fnsf jt) rfl dX12_deal_49 ?_
        refine lv_topi (fun x6691 ex6691 => ?_)
        obtain ⟨hko9, jno, hjno, ejno⟩ := a6655
        refine eqi (x1 := nI jno) (ex6691.trans ejno) ?_
        refine pf_X12_378 hC rfl hK hP hD hS 0 (ws' := [(h0, .inr (12, [.ref nw, .ref nk, .int mhasKept, .ref nt, .int mtaped, .ref nr, .int mrowMany, .int mroundOf, .int mroundFrom, .int mouts, .ref nm, .int mfromHour, .int mtoHour, .ref ns, .int mfrom, .int mto, .int msort, .int misFault, .int mdeep, .int mcoded, .int mlines, .ref nl, .ref nc, .ref nF, .ref np, .ref ntr, .ref nb, .int mbestCost, .ref nso, .ref nsi, .ref nit, .ref nsh, .ref nsf, .ref nss, .ref nrc, .int 0, .int 2, .int (nI jno), .int mwhose, .int msize, .int misParted])), (nw, .inl (G.2.1, 1662, .inl fnw)), (nsh, .inl (G.2.1, 4, .inl fnsh)), (nsf, .inl (G.2.1, 4, .inl fnsf)), (nrc, .inl (G.2.1, 30, .inl fnrc))]) rfl (Nat.le_of_ble_eq_true rfl) rfl rfl rfl dX12_deal_50 (fun H locs hP hD hS => ?_)
        refine lv_aload_n hx hb dX12_deal_53 rfl (lv_at hl 1 rfl) ?_
        refine gf_X12_72 hC rfl hK hP 0 rfl rfl dX12_deal_54 ?_
        refine lv_iload_n hx hb dX12_deal_57 rfl (lv_at hl 2 rfl) ?_
        refine ald hC hK hP 2 rfl (vp_in_nI (by omega) (by omega)) (k := jt) (nI_clamp (by omega)) (v := fnsh jt) rfl dX12_deal_58 ?_
        refine lv_topi (fun x6692 ex6692 => ?_)
        refine lv_iconst (v := 1) hx hb dX12_deal_59 (by decide) ?_
        refine lv_icmp_ne (tgt := 67) hx hb dX12_deal_60 (by decide) (fun c9 => absurd (ex6692.trans hko9) c9) (fun _ => ?_)
        refine lv_iconst (v := 1) hx hb dX12_deal_63 (by decide) ?_
        refine lv_goto (tgt := 68) hx hb dX12_deal_64 (by decide) ?_
        refine lv_istore (lv' := [(5, .int 1), (4, .int 2), (0, .ref h0), (1, .int (nI jt)), (2, .int x2), (3, .int x3)]) hx hb dX12_deal_68 hl (by decide) rfl (fun ls hl => ?_)
        refine lv_aload_n hx hb dX12_deal_70 rfl (lv_at hl 2 rfl) ?_
        refine gf_X12_72 hC rfl hK hP 0 rfl rfl dX12_deal_71 ?_
        refine lv_iload_n hx hb dX12_deal_74 rfl (lv_at hl 3 rfl) ?_
        refine ald hC hK hP 2 rfl (vp_in_nI (by omega) (by omega)) (k := jt) (nI_clamp (by omega)) (v := fnsh jt) rfl dX12_deal_75 ?_
        refine lv_topi (fun x6693 ex6693 => ?_)
        refine lv_iconst (v := 2) hx hb dX12_deal_76 (by decide) ?_
        refine lv_icmp_ne (tgt := 84) hx hb dX12_deal_77 (by decide) (fun _ => ?_) (fun c9 => absurd c9 (fun h9 => absurd (hko9.symm.trans ((ex6693.symm).trans h9)) (by decide)))
        refine lv_iconst (v := 0) hx hb dX12_deal_84 (by decide) ?_
        refine lv_istore (lv' := [(6, .int 0), (5, .int 1), (4, .int 2), (0, .ref h0), (1, .int (nI jt)), (2, .int x2), (3, .int x3)]) hx hb dX12_deal_85 hl (by decide) rfl (fun ls hl => ?_)
        refine lv_aload_n hx hb dX12_deal_87 rfl (lv_at hl 3 rfl) ?_
        refine lv_iload hx hb dX12_deal_88 (lv_at hl 1 rfl) ?_
        refine lv_if_eq (tgt := 105) hx hb dX12_deal_90 (by decide) (fun c9 => absurd c9 (by decide)) (fun _ => ?_)
        refine lv_aload_n hx hb dX12_deal_93 rfl (lv_at hl 3 rfl) ?_
        refine lv_aload_n hx hb dX12_deal_94 rfl (lv_at hl 3 rfl) ?_
        refine gf_X12_378 hC rfl hK hP 0 rfl rfl dX12_deal_95 ?_
        refine lv_iconst (v := 0) hx hb dX12_deal_98 (by decide) ?_
        refine pV hC hK hl hP hD (m_paper l G h0 jno 0 nw nk mhasKept nt mtaped nr mrowMany mroundOf mroundFrom mouts nm mfromHour mtoHour ns mfrom mto msort misFault mdeep mcoded mlines nl nc nF np ntr nb mbestCost nso nsi nit nsh nsf nss nrc 0 2 (nI jno) mwhose msize misParted fnw (by omega) (by omega)) si_X12_88 [0, 1] rfl rfl (by decide) rfl rfl rfl rfl rfl (Nat.le_of_ble_eq_true rfl) ⟨Nat.le_of_ble_eq_true rfl, Nat.le_of_ble_eq_true rfl⟩ ⟨by first | exact Nat.le_of_ble_eq_true rfl | exact Nat.zero_le _, by first | exact Nat.le_of_ble_eq_true rfl | exact Nat.zero_le _⟩ dX12_deal_99 (fun r6694 hr6694 => ?_)
        obtain rfl := hr6694
        refine lv_goto (tgt := 139) hx hb dX12_deal_102 (by decide) ?_
        refine pf_X12_375 hC rfl hK hP hD hS 0 (ws' := [(h0, .inr (12, [.ref nw, .ref nk, .int mhasKept, .ref nt, .int mtaped, .ref nr, .int mrowMany, .int mroundOf, .int mroundFrom, .int mouts, .ref nm, .int mfromHour, .int mtoHour, .ref ns, .int mfrom, .int mto, .int msort, .int misFault, .int mdeep, .int mcoded, .int mlines, .ref nl, .ref nc, .ref nF, .ref np, .ref ntr, .ref nb, .int mbestCost, .ref nso, .ref nsi, .ref nit, .ref nsh, .ref nsf, .ref nss, .ref nrc, .int 0, .int 2, .int (nI jno), .int (fnw (32 + 6 * jno + 0)), .int msize, .int misParted])), (nw, .inl (G.2.1, 1662, .inl fnw)), (nsh, .inl (G.2.1, 4, .inl fnsh)), (nsf, .inl (G.2.1, 4, .inl fnsf)), (nrc, .inl (G.2.1, 30, .inl fnrc))]) rfl (Nat.le_of_ble_eq_true rfl) rfl rfl rfl dX12_deal_139 (fun H locs hP hD hS => ?_)
        refine lv_aload_n hx hb dX12_deal_142 rfl (lv_at hl 3 rfl) ?_
        refine lv_iload hx hb dX12_deal_143 (lv_at hl 1 rfl) ?_
        refine lv_if_eq (tgt := 160) hx hb dX12_deal_145 (by decide) (fun c9 => absurd c9 (by decide)) (fun _ => ?_)
        refine lv_aload_n hx hb dX12_deal_148 rfl (lv_at hl 3 rfl) ?_
        refine lv_aload_n hx hb dX12_deal_149 rfl (lv_at hl 3 rfl) ?_
        refine gf_X12_378 hC rfl hK hP 0 rfl rfl dX12_deal_150 ?_
        refine lv_iconst (v := 2) hx hb dX12_deal_153 (by decide) ?_
        refine pV hC hK hl hP hD (m_paper l G h0 jno 2 nw nk mhasKept nt mtaped nr mrowMany mroundOf mroundFrom mouts nm mfromHour mtoHour ns mfrom mto msort misFault mdeep mcoded mlines nl nc nF np ntr nb mbestCost nso nsi nit nsh nsf nss nrc 0 2 (nI jno) (fnw (32 + 6 * jno + 0)) msize misParted fnw (by omega) (by omega)) si_X12_88 [0, 1] rfl rfl (by decide) rfl rfl rfl rfl rfl (Nat.le_of_ble_eq_true rfl) ⟨Nat.le_of_ble_eq_true rfl, Nat.le_of_ble_eq_true rfl⟩ ⟨by first | exact Nat.le_of_ble_eq_true rfl | exact Nat.zero_le _, by first | exact Nat.le_of_ble_eq_true rfl | exact Nat.zero_le _⟩ dX12_deal_154 (fun r6696 hr6696 => ?_)
        obtain rfl := hr6696
        refine lv_goto (tgt := 194) hx hb dX12_deal_157 (by decide) ?_
        refine pf_X12_369 hC rfl hK hP hD hS 0 (ws' := [(h0, .inr (12, [.ref nw, .ref nk, .int mhasKept, .ref nt, .int mtaped, .ref nr, .int mrowMany, .int mroundOf, .int mroundFrom, .int mouts, .ref nm, .int mfromHour, .int mtoHour, .ref ns, .int mfrom, .int mto, .int msort, .int misFault, .int mdeep, .int mcoded, .int mlines, .ref nl, .ref nc, .ref nF, .ref np, .ref ntr, .ref nb, .int mbestCost, .ref nso, .ref nsi, .ref nit, .ref nsh, .ref nsf, .ref nss, .ref nrc, .int 0, .int 2, .int (nI jno), .int (fnw (32 + 6 * jno + 0)), .int (fnw (32 + 6 * jno + 2)), .int misParted])), (nw, .inl (G.2.1, 1662, .inl fnw)), (nsh, .inl (G.2.1, 4, .inl fnsh)), (nsf, .inl (G.2.1, 4, .inl fnsf)), (nrc, .inl (G.2.1, 30, .inl fnrc))]) rfl (Nat.le_of_ble_eq_true rfl) rfl rfl rfl dX12_deal_194 (fun H locs hP hD hS => ?_)
        refine lv_aload_n hx hb dX12_deal_197 rfl (lv_at hl 3 rfl) ?_
        refine lv_iconst (v := 0) hx hb dX12_deal_198 (by decide) ?_
        refine pf_X12_380 hC rfl hK hP hD hS 0 (ws' := [(h0, .inr (12, [.ref nw, .ref nk, .int mhasKept, .ref nt, .int mtaped, .ref nr, .int mrowMany, .int mroundOf, .int mroundFrom, .int mouts, .ref nm, .int mfromHour, .int mtoHour, .ref ns, .int mfrom, .int mto, .int msort, .int misFault, .int mdeep, .int mcoded, .int mlines, .ref nl, .ref nc, .ref nF, .ref np, .ref ntr, .ref nb, .int mbestCost, .ref nso, .ref nsi, .ref nit, .ref nsh, .ref nsf, .ref nss, .ref nrc, .int 0, .int 2, .int (nI jno), .int (fnw (32 + 6 * jno + 0)), .int (fnw (32 + 6 * jno + 2)), .int 0])), (nw, .inl (G.2.1, 1662, .inl fnw)), (nsh, .inl (G.2.1, 4, .inl fnsh)), (nsf, .inl (G.2.1, 4, .inl fnsf)), (nrc, .inl (G.2.1, 30, .inl fnrc))]) rfl (Nat.le_of_ble_eq_true rfl) rfl (by decide +kernel) (by decide +kernel) dX12_deal_199 (fun H locs hP hD hS => ?_)
        obtain ⟨jdl, hjdl, rfl⟩ := Wi_nat (N := 3) (by decide) a6653
        rcases (show jdl = 0 ∨ jdl = 1 ∨ jdl = 2 ∨ jdl = 3 by omega) with rfl | rfl | rfl | rfl
        · refine lv_aload_n hx hb dX12_deal_202 rfl (lv_at hl 3 rfl) ?_
          refine lv_iload_n hx hb dX12_deal_203 rfl (lv_at hl 5 rfl) ?_
          refine lv_iload_n hx hb dX12_deal_204 rfl (lv_at hl 6 rfl) ?_
          refine iV (wr := [(nw, .inl (G.2.1, 1662, .inl fnw)), (nsh, .inl (G.2.1, 4, .inl fnsh)), (nsf, .inl (G.2.1, 4, .inl fnsf))]) hC hK hl hP hD hS hA (m_dealt0 l G h0 x3 nw nk mhasKept nt mtaped nr mrowMany mroundOf mroundFrom mouts nm mfromHour mtoHour ns mfrom mto msort misFault mdeep mcoded mlines nl nc nF np ntr nb mbestCost nso nsi nit nsh nsf nss nrc 0 2 (nI jno) (fnw (32 + 6 * jno + 0)) (fnw (32 + 6 * jno + 2)) 0 fnrc (by omega) (by omega)) si_X12_372 [0, 4] [1, 2, 3] rfl rfl (by decide) rfl (by decide) (by decide) rfl rfl rfl rfl rfl (Nat.le_of_ble_eq_true rfl) ⟨Nat.le_of_ble_eq_true rfl, Nat.le_of_ble_eq_true rfl⟩ ⟨Nat.le_of_ble_eq_true rfl, Nat.le_of_ble_eq_true rfl⟩ dX12_deal_205 (fun r6698 u6699 H locs hr6698 hP hD hS => ?_)
          obtain ⟨jr16700, ip16701, gtrc6702⟩ := u6699
          try dsimp only at hr6698
          have hP : va_P G.1 vwCl [(nw, .inl (G.2.1, 1662, .inl fnw)), (nsh, .inl (G.2.1, 4, .inl fnsh)), (nsf, .inl (G.2.1, 4, .inl fnsf)), (h0, .inr (12, [.ref nw, .ref nk, .int mhasKept, .ref nt, .int mtaped, .ref nr, .int mrowMany, .int mroundOf, .int mroundFrom, .int mouts, .ref nm, .int mfromHour, .int mtoHour, .ref ns, .int mfrom, .int mto, .int msort, .int misFault, .int mdeep, .int mcoded, .int mlines, .ref nl, .ref nc, .ref nF, .ref np, .ref ntr, .ref nb, .int mbestCost, .ref nso, .ref nsi, .ref nit, .ref nsh, .ref nsf, .ref nss, .ref nrc, .int (nI jr16700), .int 2, .int (nI jno), .int (fnw (32 + 6 * jno + 0)), .int (fnw (32 + 6 * jno + 2)), .int ip16701])), (nrc, .inl (G.2.1, 30, .inl gtrc6702))] H := hP
          have hD : va_D A [(nw, .inl (G.2.1, 1662, .inl fnw)), (nsh, .inl (G.2.1, 4, .inl fnsh)), (nsf, .inl (G.2.1, 4, .inl fnsf)), (h0, .inr (12, [.ref nw, .ref nk, .int mhasKept, .ref nt, .int mtaped, .ref nr, .int mrowMany, .int mroundOf, .int mroundFrom, .int mouts, .ref nm, .int mfromHour, .int mtoHour, .ref ns, .int mfrom, .int mto, .int msort, .int misFault, .int mdeep, .int mcoded, .int mlines, .ref nl, .ref nc, .ref nF, .ref np, .ref ntr, .ref nb, .int mbestCost, .ref nso, .ref nsi, .ref nit, .ref nsh, .ref nsf, .ref nss, .ref nrc, .int (nI jr16700), .int 2, .int (nI jno), .int (fnw (32 + 6 * jno + 0)), .int (fnw (32 + 6 * jno + 2)), .int ip16701])), (nrc, .inl (G.2.1, 30, .inl gtrc6702))] := hD
          obtain ⟨hr6698, w6703⟩ := hr6698
          refine lv_istore (lv' := [(7, .int r6698), (6, .int 0), (5, .int 1), (4, .int 2), (0, .ref h0), (1, .int (nI jt)), (2, .int 0), (3, .int x3)]) hx hb dX12_deal_208 hl (by decide) rfl (fun ls hl => ?_)
          refine lv_aload_n hx hb dX12_deal_210 rfl (lv_at hl 4 rfl) ?_
          refine gf_X12_380 hC rfl hK hP 3 rfl rfl dX12_deal_211 ?_
          refine lv_if_eq (tgt := 222) hx hb dX12_deal_214 (by decide) (fun c_214_6704 => ?_) (fun c_214_6704 => ?_)
          · refine lv_iload hx hb dX12_deal_222 (lv_at hl 0 rfl) ?_
            exact RI (v := r6698) hC hP hD hS [3, 0, 1, 2, 4] (jr16700, 2, nI jno, fnw (32 + 6 * jno + 0), fnw (32 + 6 * jno + 2), ip16701, gtrc6702) rfl rfl (by decide) (⟨trivial, by omega⟩) rfl dX12_deal_224
          · refine lv_bipush (v := (-15)) hx hb dX12_deal_217 (by decide) ?_
            refine lv_goto (tgt := 224) hx hb dX12_deal_219 (by decide) ?_
            exact RI (v := (-15)) hC hP hD hS [3, 0, 1, 2, 4] (jr16700, 2, nI jno, fnw (32 + 6 * jno + 0), fnw (32 + 6 * jno + 2), ip16701, gtrc6702) rfl rfl (by decide) (⟨trivial, by omega⟩) rfl dX12_deal_224
        · refine lv_aload_n hx hb dX12_deal_202 rfl (lv_at hl 3 rfl) ?_
          refine lv_iload_n hx hb dX12_deal_203 rfl (lv_at hl 5 rfl) ?_
          refine lv_iload_n hx hb dX12_deal_204 rfl (lv_at hl 6 rfl) ?_
          refine iV (wr := [(nw, .inl (G.2.1, 1662, .inl fnw)), (nsh, .inl (G.2.1, 4, .inl fnsh)), (nsf, .inl (G.2.1, 4, .inl fnsf))]) hC hK hl hP hD hS hA (m_dealt1 l G h0 x3 nw nk mhasKept nt mtaped nr mrowMany mroundOf mroundFrom mouts nm mfromHour mtoHour ns mfrom mto msort misFault mdeep mcoded mlines nl nc nF np ntr nb mbestCost nso nsi nit nsh nsf nss nrc 0 2 (nI jno) (fnw (32 + 6 * jno + 0)) (fnw (32 + 6 * jno + 2)) 0 fnrc (by omega) (by omega)) si_X12_372 [0, 4] [1, 2, 3] rfl rfl (by decide) rfl (by decide) (by decide) rfl rfl rfl rfl rfl (Nat.le_of_ble_eq_true rfl) ⟨Nat.le_of_ble_eq_true rfl, Nat.le_of_ble_eq_true rfl⟩ ⟨Nat.le_of_ble_eq_true rfl, Nat.le_of_ble_eq_true rfl⟩ dX12_deal_205 (fun r6705 u6706 H locs hr6705 hP hD hS => ?_)
          obtain ⟨jr16707, ip16708, gtrc6709⟩ := u6706
          try dsimp only at hr6705
          have hP : va_P G.1 vwCl [(nw, .inl (G.2.1, 1662, .inl fnw)), (nsh, .inl (G.2.1, 4, .inl fnsh)), (nsf, .inl (G.2.1, 4, .inl fnsf)), (h0, .inr (12, [.ref nw, .ref nk, .int mhasKept, .ref nt, .int mtaped, .ref nr, .int mrowMany, .int mroundOf, .int mroundFrom, .int mouts, .ref nm, .int mfromHour, .int mtoHour, .ref ns, .int mfrom, .int mto, .int msort, .int misFault, .int mdeep, .int mcoded, .int mlines, .ref nl, .ref nc, .ref nF, .ref np, .ref ntr, .ref nb, .int mbestCost, .ref nso, .ref nsi, .ref nit, .ref nsh, .ref nsf, .ref nss, .ref nrc, .int (nI jr16707), .int 2, .int (nI jno), .int (fnw (32 + 6 * jno + 0)), .int (fnw (32 + 6 * jno + 2)), .int ip16708])), (nrc, .inl (G.2.1, 30, .inl gtrc6709))] H := hP
          have hD : va_D A [(nw, .inl (G.2.1, 1662, .inl fnw)), (nsh, .inl (G.2.1, 4, .inl fnsh)), (nsf, .inl (G.2.1, 4, .inl fnsf)), (h0, .inr (12, [.ref nw, .ref nk, .int mhasKept, .ref nt, .int mtaped, .ref nr, .int mrowMany, .int mroundOf, .int mroundFrom, .int mouts, .ref nm, .int mfromHour, .int mtoHour, .ref ns, .int mfrom, .int mto, .int msort, .int misFault, .int mdeep, .int mcoded, .int mlines, .ref nl, .ref nc, .ref nF, .ref np, .ref ntr, .ref nb, .int mbestCost, .ref nso, .ref nsi, .ref nit, .ref nsh, .ref nsf, .ref nss, .ref nrc, .int (nI jr16707), .int 2, .int (nI jno), .int (fnw (32 + 6 * jno + 0)), .int (fnw (32 + 6 * jno + 2)), .int ip16708])), (nrc, .inl (G.2.1, 30, .inl gtrc6709))] := hD
          obtain ⟨hr6705, w6710⟩ := hr6705
          refine lv_istore (lv' := [(7, .int r6705), (6, .int 0), (5, .int 1), (4, .int 2), (0, .ref h0), (1, .int (nI jt)), (2, .int 1), (3, .int x3)]) hx hb dX12_deal_208 hl (by decide) rfl (fun ls hl => ?_)
          refine lv_aload_n hx hb dX12_deal_210 rfl (lv_at hl 4 rfl) ?_
          refine gf_X12_380 hC rfl hK hP 3 rfl rfl dX12_deal_211 ?_
          refine lv_if_eq (tgt := 222) hx hb dX12_deal_214 (by decide) (fun c_214_6711 => ?_) (fun c_214_6711 => ?_)
          · refine lv_iload hx hb dX12_deal_222 (lv_at hl 0 rfl) ?_
            exact RI (v := r6705) hC hP hD hS [3, 0, 1, 2, 4] (jr16707, 2, nI jno, fnw (32 + 6 * jno + 0), fnw (32 + 6 * jno + 2), ip16708, gtrc6709) rfl rfl (by decide) (⟨trivial, by omega⟩) rfl dX12_deal_224
          · refine lv_bipush (v := (-15)) hx hb dX12_deal_217 (by decide) ?_
            refine lv_goto (tgt := 224) hx hb dX12_deal_219 (by decide) ?_
            exact RI (v := (-15)) hC hP hD hS [3, 0, 1, 2, 4] (jr16707, 2, nI jno, fnw (32 + 6 * jno + 0), fnw (32 + 6 * jno + 2), ip16708, gtrc6709) rfl rfl (by decide) (⟨trivial, by omega⟩) rfl dX12_deal_224
        · refine lv_aload_n hx hb dX12_deal_202 rfl (lv_at hl 3 rfl) ?_
          refine lv_iload_n hx hb dX12_deal_203 rfl (lv_at hl 5 rfl) ?_
          refine lv_iload_n hx hb dX12_deal_204 rfl (lv_at hl 6 rfl) ?_
          refine iV (wr := [(nw, .inl (G.2.1, 1662, .inl fnw)), (nsh, .inl (G.2.1, 4, .inl fnsh)), (nsf, .inl (G.2.1, 4, .inl fnsf))]) hC hK hl hP hD hS hA (m_dealt2 l G h0 x3 nw nk mhasKept nt mtaped nr mrowMany mroundOf mroundFrom mouts nm mfromHour mtoHour ns mfrom mto msort misFault mdeep mcoded mlines nl nc nF np ntr nb mbestCost nso nsi nit nsh nsf nss nrc 0 2 (nI jno) (fnw (32 + 6 * jno + 0)) (fnw (32 + 6 * jno + 2)) 0 fnrc (by omega) (by omega)) si_X12_372 [0, 4] [1, 2, 3] rfl rfl (by decide) rfl (by decide) (by decide) rfl rfl rfl rfl rfl (Nat.le_of_ble_eq_true rfl) ⟨Nat.le_of_ble_eq_true rfl, Nat.le_of_ble_eq_true rfl⟩ ⟨Nat.le_of_ble_eq_true rfl, Nat.le_of_ble_eq_true rfl⟩ dX12_deal_205 (fun r6712 u6713 H locs hr6712 hP hD hS => ?_)
          obtain ⟨jr16714, ip16715, gtrc6716⟩ := u6713
          try dsimp only at hr6712
          have hP : va_P G.1 vwCl [(nw, .inl (G.2.1, 1662, .inl fnw)), (nsh, .inl (G.2.1, 4, .inl fnsh)), (nsf, .inl (G.2.1, 4, .inl fnsf)), (h0, .inr (12, [.ref nw, .ref nk, .int mhasKept, .ref nt, .int mtaped, .ref nr, .int mrowMany, .int mroundOf, .int mroundFrom, .int mouts, .ref nm, .int mfromHour, .int mtoHour, .ref ns, .int mfrom, .int mto, .int msort, .int misFault, .int mdeep, .int mcoded, .int mlines, .ref nl, .ref nc, .ref nF, .ref np, .ref ntr, .ref nb, .int mbestCost, .ref nso, .ref nsi, .ref nit, .ref nsh, .ref nsf, .ref nss, .ref nrc, .int (nI jr16714), .int 2, .int (nI jno), .int (fnw (32 + 6 * jno + 0)), .int (fnw (32 + 6 * jno + 2)), .int ip16715])), (nrc, .inl (G.2.1, 30, .inl gtrc6716))] H := hP
          have hD : va_D A [(nw, .inl (G.2.1, 1662, .inl fnw)), (nsh, .inl (G.2.1, 4, .inl fnsh)), (nsf, .inl (G.2.1, 4, .inl fnsf)), (h0, .inr (12, [.ref nw, .ref nk, .int mhasKept, .ref nt, .int mtaped, .ref nr, .int mrowMany, .int mroundOf, .int mroundFrom, .int mouts, .ref nm, .int mfromHour, .int mtoHour, .ref ns, .int mfrom, .int mto, .int msort, .int misFault, .int mdeep, .int mcoded, .int mlines, .ref nl, .ref nc, .ref nF, .ref np, .ref ntr, .ref nb, .int mbestCost, .ref nso, .ref nsi, .ref nit, .ref nsh, .ref nsf, .ref nss, .ref nrc, .int (nI jr16714), .int 2, .int (nI jno), .int (fnw (32 + 6 * jno + 0)), .int (fnw (32 + 6 * jno + 2)), .int ip16715])), (nrc, .inl (G.2.1, 30, .inl gtrc6716))] := hD
          obtain ⟨hr6712, w6717⟩ := hr6712
          refine lv_istore (lv' := [(7, .int r6712), (6, .int 0), (5, .int 1), (4, .int 2), (0, .ref h0), (1, .int (nI jt)), (2, .int 2), (3, .int x3)]) hx hb dX12_deal_208 hl (by decide) rfl (fun ls hl => ?_)
          refine lv_aload_n hx hb dX12_deal_210 rfl (lv_at hl 4 rfl) ?_
          refine gf_X12_380 hC rfl hK hP 3 rfl rfl dX12_deal_211 ?_
          refine lv_if_eq (tgt := 222) hx hb dX12_deal_214 (by decide) (fun c_214_6718 => ?_) (fun c_214_6718 => ?_)
          · refine lv_iload hx hb dX12_deal_222 (lv_at hl 0 rfl) ?_
            exact RI (v := r6712) hC hP hD hS [3, 0, 1, 2, 4] (jr16714, 2, nI jno, fnw (32 + 6 * jno + 0), fnw (32 + 6 * jno + 2), ip16715, gtrc6716) rfl rfl (by decide) (⟨trivial, by omega⟩) rfl dX12_deal_224
          · refine lv_bipush (v := (-15)) hx hb dX12_deal_217 (by decide) ?_
            refine lv_goto (tgt := 224) hx hb dX12_deal_219 (by decide) ?_
            exact RI (v := (-15)) hC hP hD hS [3, 0, 1, 2, 4] (jr16714, 2, nI jno, fnw (32 + 6 * jno + 0), fnw (32 + 6 * jno + 2), ip16715, gtrc6716) rfl rfl (by decide) (⟨trivial, by omega⟩) rfl dX12_deal_224
        · refine lv_aload_n hx hb dX12_deal_202 rfl (lv_at hl 3 rfl) ?_
          refine lv_iload_n hx hb dX12_deal_203 rfl (lv_at hl 5 rfl) ?_
          refine lv_iload_n hx hb dX12_deal_204 rfl (lv_at hl 6 rfl) ?_
          refine iV (wr := [(nw, .inl (G.2.1, 1662, .inl fnw)), (nsh, .inl (G.2.1, 4, .inl fnsh)), (nsf, .inl (G.2.1, 4, .inl fnsf))]) hC hK hl hP hD hS hA (m_dealt3 l G h0 x3 nw nk mhasKept nt mtaped nr mrowMany mroundOf mroundFrom mouts nm mfromHour mtoHour ns mfrom mto msort misFault mdeep mcoded mlines nl nc nF np ntr nb mbestCost nso nsi nit nsh nsf nss nrc 0 2 (nI jno) (fnw (32 + 6 * jno + 0)) (fnw (32 + 6 * jno + 2)) 0 fnrc (by omega) (by omega)) si_X12_372 [0, 4] [1, 2, 3] rfl rfl (by decide) rfl (by decide) (by decide) rfl rfl rfl rfl rfl (Nat.le_of_ble_eq_true rfl) ⟨Nat.le_of_ble_eq_true rfl, Nat.le_of_ble_eq_true rfl⟩ ⟨Nat.le_of_ble_eq_true rfl, Nat.le_of_ble_eq_true rfl⟩ dX12_deal_205 (fun r6719 u6720 H locs hr6719 hP hD hS => ?_)
          obtain ⟨jr16721, ip16722, gtrc6723⟩ := u6720
          try dsimp only at hr6719
          have hP : va_P G.1 vwCl [(nw, .inl (G.2.1, 1662, .inl fnw)), (nsh, .inl (G.2.1, 4, .inl fnsh)), (nsf, .inl (G.2.1, 4, .inl fnsf)), (h0, .inr (12, [.ref nw, .ref nk, .int mhasKept, .ref nt, .int mtaped, .ref nr, .int mrowMany, .int mroundOf, .int mroundFrom, .int mouts, .ref nm, .int mfromHour, .int mtoHour, .ref ns, .int mfrom, .int mto, .int msort, .int misFault, .int mdeep, .int mcoded, .int mlines, .ref nl, .ref nc, .ref nF, .ref np, .ref ntr, .ref nb, .int mbestCost, .ref nso, .ref nsi, .ref nit, .ref nsh, .ref nsf, .ref nss, .ref nrc, .int (nI jr16721), .int 2, .int (nI jno), .int (fnw (32 + 6 * jno + 0)), .int (fnw (32 + 6 * jno + 2)), .int ip16722])), (nrc, .inl (G.2.1, 30, .inl gtrc6723))] H := hP
          have hD : va_D A [(nw, .inl (G.2.1, 1662, .inl fnw)), (nsh, .inl (G.2.1, 4, .inl fnsh)), (nsf, .inl (G.2.1, 4, .inl fnsf)), (h0, .inr (12, [.ref nw, .ref nk, .int mhasKept, .ref nt, .int mtaped, .ref nr, .int mrowMany, .int mroundOf, .int mroundFrom, .int mouts, .ref nm, .int mfromHour, .int mtoHour, .ref ns, .int mfrom, .int mto, .int msort, .int misFault, .int mdeep, .int mcoded, .int mlines, .ref nl, .ref nc, .ref nF, .ref np, .ref ntr, .ref nb, .int mbestCost, .ref nso, .ref nsi, .ref nit, .ref nsh, .ref nsf, .ref nss, .ref nrc, .int (nI jr16721), .int 2, .int (nI jno), .int (fnw (32 + 6 * jno + 0)), .int (fnw (32 + 6 * jno + 2)), .int ip16722])), (nrc, .inl (G.2.1, 30, .inl gtrc6723))] := hD
          obtain ⟨hr6719, w6724⟩ := hr6719
          refine lv_istore (lv' := [(7, .int r6719), (6, .int 0), (5, .int 1), (4, .int 2), (0, .ref h0), (1, .int (nI jt)), (2, .int 3), (3, .int x3)]) hx hb dX12_deal_208 hl (by decide) rfl (fun ls hl => ?_)
          refine lv_aload_n hx hb dX12_deal_210 rfl (lv_at hl 4 rfl) ?_
          refine gf_X12_380 hC rfl hK hP 3 rfl rfl dX12_deal_211 ?_
          refine lv_if_eq (tgt := 222) hx hb dX12_deal_214 (by decide) (fun c_214_6725 => ?_) (fun c_214_6725 => ?_)
          · refine lv_iload hx hb dX12_deal_222 (lv_at hl 0 rfl) ?_
            exact RI (v := r6719) hC hP hD hS [3, 0, 1, 2, 4] (jr16721, 2, nI jno, fnw (32 + 6 * jno + 0), fnw (32 + 6 * jno + 2), ip16722, gtrc6723) rfl rfl (by decide) (⟨trivial, by omega⟩) rfl dX12_deal_224
          · refine lv_bipush (v := (-15)) hx hb dX12_deal_217 (by decide) ?_
            refine lv_goto (tgt := 224) hx hb dX12_deal_219 (by decide) ?_
            exact RI (v := (-15)) hC hP hD hS [3, 0, 1, 2, 4] (jr16721, 2, nI jno, fnw (32 + 6 * jno + 0), fnw (32 + 6 * jno + 2), ip16722, gtrc6723) rfl rfl (by decide) (⟨trivial, by omega⟩) rfl dX12_deal_224
      · refine lv_istore (lv' := [(4, .int 3), (0, .ref h0), (1, .int (nI jt)), (2, .int x2), (3, .int x3)]) hx hb dX12_deal_28 hl (by decide) rfl (fun ls hl => ?_)
        refine lv_iload hx hb dX12_deal_30 (lv_at hl 0 rfl) ?_
        refine lv_if_ge (tgt := 37) hx hb dX12_deal_32 (by decide) (fun _ => ?_) (fun c9 => absurd (by decide) c9)
        refine lv_aload_n hx hb dX12_deal_37 rfl (lv_at hl 1 rfl) ?_
        refine lv_iload hx hb dX12_deal_38 (lv_at hl 0 rfl) ?_
        refine pf_X12_354 hC rfl hK hP hD hS 0 (ws' := [(h0, .inr (12, [.ref nw, .ref nk, .int mhasKept, .ref nt, .int mtaped, .ref nr, .int mrowMany, .int mroundOf, .int mroundFrom, .int mouts, .ref nm, .int mfromHour, .int mtoHour, .ref ns, .int mfrom, .int mto, .int msort, .int misFault, .int mdeep, .int mcoded, .int mlines, .ref nl, .ref nc, .ref nF, .ref np, .ref ntr, .ref nb, .int mbestCost, .ref nso, .ref nsi, .ref nit, .ref nsh, .ref nsf, .ref nss, .ref nrc, .int 0, .int 3, .int mnumber, .int mwhose, .int msize, .int misParted])), (nw, .inl (G.2.1, 1662, .inl fnw)), (nsh, .inl (G.2.1, 4, .inl fnsh)), (nsf, .inl (G.2.1, 4, .inl fnsf)), (nrc, .inl (G.2.1, 30, .inl fnrc))]) rfl (Nat.le_of_ble_eq_true rfl) rfl rfl rfl dX12_deal_40 (fun H locs hP hD hS => ?_)
        refine lv_aload_n hx hb dX12_deal_43 rfl (lv_at hl 1 rfl) ?_
        refine lv_aload_n hx hb dX12_deal_44 rfl (lv_at hl 1 rfl) ?_
        refine gf_X12_75 hC rfl hK hP 0 rfl rfl dX12_deal_45 ?_
        refine lv_iload_n hx hb dX12_deal_48 rfl (lv_at hl 2 rfl) ?_
        refine ald hC hK hP 3 rfl (vp_in_nI (by omega) (by omega)) (k := jt) (nI_clamp (by omega)) (v := fnsf jt) rfl dX12_deal_49 ?_
        refine lv_topi (fun x6726 ex6726 => ?_)
        obtain ⟨hko9, jno, hjno, ejno⟩ := a6655
        refine eqi (x1 := nI jno) (ex6726.trans ejno) ?_
        refine pf_X12_378 hC rfl hK hP hD hS 0 (ws' := [(h0, .inr (12, [.ref nw, .ref nk, .int mhasKept, .ref nt, .int mtaped, .ref nr, .int mrowMany, .int mroundOf, .int mroundFrom, .int mouts, .ref nm, .int mfromHour, .int mtoHour, .ref ns, .int mfrom, .int mto, .int msort, .int misFault, .int mdeep, .int mcoded, .int mlines, .ref nl, .ref nc, .ref nF, .ref np, .ref ntr, .ref nb, .int mbestCost, .ref nso, .ref nsi, .ref nit, .ref nsh, .ref nsf, .ref nss, .ref nrc, .int 0, .int 3, .int (nI jno), .int mwhose, .int msize, .int misParted])), (nw, .inl (G.2.1, 1662, .inl fnw)), (nsh, .inl (G.2.1, 4, .inl fnsh)), (nsf, .inl (G.2.1, 4, .inl fnsf)), (nrc, .inl (G.2.1, 30, .inl fnrc))]) rfl (Nat.le_of_ble_eq_true rfl) rfl rfl rfl dX12_deal_50 (fun H locs hP hD hS => ?_)
        refine lv_aload_n hx hb dX12_deal_53 rfl (lv_at hl 1 rfl) ?_
        refine gf_X12_72 hC rfl hK hP 0 rfl rfl dX12_deal_54 ?_
        refine lv_iload_n hx hb dX12_deal_57 rfl (lv_at hl 2 rfl) ?_
        refine ald hC hK hP 2 rfl (vp_in_nI (by omega) (by omega)) (k := jt) (nI_clamp (by omega)) (v := fnsh jt) rfl dX12_deal_58 ?_
        refine lv_topi (fun x6727 ex6727 => ?_)
        refine lv_iconst (v := 1) hx hb dX12_deal_59 (by decide) ?_
        refine lv_icmp_ne (tgt := 67) hx hb dX12_deal_60 (by decide) (fun c9 => absurd (ex6727.trans hko9) c9) (fun _ => ?_)
        refine lv_iconst (v := 1) hx hb dX12_deal_63 (by decide) ?_
        refine lv_goto (tgt := 68) hx hb dX12_deal_64 (by decide) ?_
        refine lv_istore (lv' := [(5, .int 1), (4, .int 3), (0, .ref h0), (1, .int (nI jt)), (2, .int x2), (3, .int x3)]) hx hb dX12_deal_68 hl (by decide) rfl (fun ls hl => ?_)
        refine lv_aload_n hx hb dX12_deal_70 rfl (lv_at hl 2 rfl) ?_
        refine gf_X12_72 hC rfl hK hP 0 rfl rfl dX12_deal_71 ?_
        refine lv_iload_n hx hb dX12_deal_74 rfl (lv_at hl 3 rfl) ?_
        refine ald hC hK hP 2 rfl (vp_in_nI (by omega) (by omega)) (k := jt) (nI_clamp (by omega)) (v := fnsh jt) rfl dX12_deal_75 ?_
        refine lv_topi (fun x6728 ex6728 => ?_)
        refine lv_iconst (v := 2) hx hb dX12_deal_76 (by decide) ?_
        refine lv_icmp_ne (tgt := 84) hx hb dX12_deal_77 (by decide) (fun _ => ?_) (fun c9 => absurd c9 (fun h9 => absurd (hko9.symm.trans ((ex6728.symm).trans h9)) (by decide)))
        refine lv_iconst (v := 0) hx hb dX12_deal_84 (by decide) ?_
        refine lv_istore (lv' := [(6, .int 0), (5, .int 1), (4, .int 3), (0, .ref h0), (1, .int (nI jt)), (2, .int x2), (3, .int x3)]) hx hb dX12_deal_85 hl (by decide) rfl (fun ls hl => ?_)
        refine lv_aload_n hx hb dX12_deal_87 rfl (lv_at hl 3 rfl) ?_
        refine lv_iload hx hb dX12_deal_88 (lv_at hl 1 rfl) ?_
        refine lv_if_eq (tgt := 105) hx hb dX12_deal_90 (by decide) (fun c9 => absurd c9 (by decide)) (fun _ => ?_)
        refine lv_aload_n hx hb dX12_deal_93 rfl (lv_at hl 3 rfl) ?_
        refine lv_aload_n hx hb dX12_deal_94 rfl (lv_at hl 3 rfl) ?_
        refine gf_X12_378 hC rfl hK hP 0 rfl rfl dX12_deal_95 ?_
        refine lv_iconst (v := 0) hx hb dX12_deal_98 (by decide) ?_
        refine pV hC hK hl hP hD (m_paper l G h0 jno 0 nw nk mhasKept nt mtaped nr mrowMany mroundOf mroundFrom mouts nm mfromHour mtoHour ns mfrom mto msort misFault mdeep mcoded mlines nl nc nF np ntr nb mbestCost nso nsi nit nsh nsf nss nrc 0 3 (nI jno) mwhose msize misParted fnw (by omega) (by omega)) si_X12_88 [0, 1] rfl rfl (by decide) rfl rfl rfl rfl rfl (Nat.le_of_ble_eq_true rfl) ⟨Nat.le_of_ble_eq_true rfl, Nat.le_of_ble_eq_true rfl⟩ ⟨by first | exact Nat.le_of_ble_eq_true rfl | exact Nat.zero_le _, by first | exact Nat.le_of_ble_eq_true rfl | exact Nat.zero_le _⟩ dX12_deal_99 (fun r6729 hr6729 => ?_)
        obtain rfl := hr6729
        refine lv_goto (tgt := 139) hx hb dX12_deal_102 (by decide) ?_
        refine pf_X12_375 hC rfl hK hP hD hS 0 (ws' := [(h0, .inr (12, [.ref nw, .ref nk, .int mhasKept, .ref nt, .int mtaped, .ref nr, .int mrowMany, .int mroundOf, .int mroundFrom, .int mouts, .ref nm, .int mfromHour, .int mtoHour, .ref ns, .int mfrom, .int mto, .int msort, .int misFault, .int mdeep, .int mcoded, .int mlines, .ref nl, .ref nc, .ref nF, .ref np, .ref ntr, .ref nb, .int mbestCost, .ref nso, .ref nsi, .ref nit, .ref nsh, .ref nsf, .ref nss, .ref nrc, .int 0, .int 3, .int (nI jno), .int (fnw (32 + 6 * jno + 0)), .int msize, .int misParted])), (nw, .inl (G.2.1, 1662, .inl fnw)), (nsh, .inl (G.2.1, 4, .inl fnsh)), (nsf, .inl (G.2.1, 4, .inl fnsf)), (nrc, .inl (G.2.1, 30, .inl fnrc))]) rfl (Nat.le_of_ble_eq_true rfl) rfl rfl rfl dX12_deal_139 (fun H locs hP hD hS => ?_)
        refine lv_aload_n hx hb dX12_deal_142 rfl (lv_at hl 3 rfl) ?_
        refine lv_iload hx hb dX12_deal_143 (lv_at hl 1 rfl) ?_
        refine lv_if_eq (tgt := 160) hx hb dX12_deal_145 (by decide) (fun c9 => absurd c9 (by decide)) (fun _ => ?_)
        refine lv_aload_n hx hb dX12_deal_148 rfl (lv_at hl 3 rfl) ?_
        refine lv_aload_n hx hb dX12_deal_149 rfl (lv_at hl 3 rfl) ?_
        refine gf_X12_378 hC rfl hK hP 0 rfl rfl dX12_deal_150 ?_
        refine lv_iconst (v := 2) hx hb dX12_deal_153 (by decide) ?_
        refine pV hC hK hl hP hD (m_paper l G h0 jno 2 nw nk mhasKept nt mtaped nr mrowMany mroundOf mroundFrom mouts nm mfromHour mtoHour ns mfrom mto msort misFault mdeep mcoded mlines nl nc nF np ntr nb mbestCost nso nsi nit nsh nsf nss nrc 0 3 (nI jno) (fnw (32 + 6 * jno + 0)) msize misParted fnw (by omega) (by omega)) si_X12_88 [0, 1] rfl rfl (by decide) rfl rfl rfl rfl rfl (Nat.le_of_ble_eq_true rfl) ⟨Nat.le_of_ble_eq_true rfl, Nat.le_of_ble_eq_true rfl⟩ ⟨by first | exact Nat.le_of_ble_eq_true rfl | exact Nat.zero_le _, by first | exact Nat.le_of_ble_eq_true rfl | exact Nat.zero_le _⟩ dX12_deal_154 (fun r6731 hr6731 => ?_)
        obtain rfl := hr6731
        refine lv_goto (tgt := 194) hx hb dX12_deal_157 (by decide) ?_
        refine pf_X12_369 hC rfl hK hP hD hS 0 (ws' := [(h0, .inr (12, [.ref nw, .ref nk, .int mhasKept, .ref nt, .int mtaped, .ref nr, .int mrowMany, .int mroundOf, .int mroundFrom, .int mouts, .ref nm, .int mfromHour, .int mtoHour, .ref ns, .int mfrom, .int mto, .int msort, .int misFault, .int mdeep, .int mcoded, .int mlines, .ref nl, .ref nc, .ref nF, .ref np, .ref ntr, .ref nb, .int mbestCost, .ref nso, .ref nsi, .ref nit, .ref nsh, .ref nsf, .ref nss, .ref nrc, .int 0, .int 3, .int (nI jno), .int (fnw (32 + 6 * jno + 0)), .int (fnw (32 + 6 * jno + 2)), .int misParted])), (nw, .inl (G.2.1, 1662, .inl fnw)), (nsh, .inl (G.2.1, 4, .inl fnsh)), (nsf, .inl (G.2.1, 4, .inl fnsf)), (nrc, .inl (G.2.1, 30, .inl fnrc))]) rfl (Nat.le_of_ble_eq_true rfl) rfl rfl rfl dX12_deal_194 (fun H locs hP hD hS => ?_)
        refine lv_aload_n hx hb dX12_deal_197 rfl (lv_at hl 3 rfl) ?_
        refine lv_iconst (v := 0) hx hb dX12_deal_198 (by decide) ?_
        refine pf_X12_380 hC rfl hK hP hD hS 0 (ws' := [(h0, .inr (12, [.ref nw, .ref nk, .int mhasKept, .ref nt, .int mtaped, .ref nr, .int mrowMany, .int mroundOf, .int mroundFrom, .int mouts, .ref nm, .int mfromHour, .int mtoHour, .ref ns, .int mfrom, .int mto, .int msort, .int misFault, .int mdeep, .int mcoded, .int mlines, .ref nl, .ref nc, .ref nF, .ref np, .ref ntr, .ref nb, .int mbestCost, .ref nso, .ref nsi, .ref nit, .ref nsh, .ref nsf, .ref nss, .ref nrc, .int 0, .int 3, .int (nI jno), .int (fnw (32 + 6 * jno + 0)), .int (fnw (32 + 6 * jno + 2)), .int 0])), (nw, .inl (G.2.1, 1662, .inl fnw)), (nsh, .inl (G.2.1, 4, .inl fnsh)), (nsf, .inl (G.2.1, 4, .inl fnsf)), (nrc, .inl (G.2.1, 30, .inl fnrc))]) rfl (Nat.le_of_ble_eq_true rfl) rfl (by decide +kernel) (by decide +kernel) dX12_deal_199 (fun H locs hP hD hS => ?_)
        obtain ⟨jdl, hjdl, rfl⟩ := Wi_nat (N := 3) (by decide) a6653
        rcases (show jdl = 0 ∨ jdl = 1 ∨ jdl = 2 ∨ jdl = 3 by omega) with rfl | rfl | rfl | rfl
        · refine lv_aload_n hx hb dX12_deal_202 rfl (lv_at hl 3 rfl) ?_
          refine lv_iload_n hx hb dX12_deal_203 rfl (lv_at hl 5 rfl) ?_
          refine lv_iload_n hx hb dX12_deal_204 rfl (lv_at hl 6 rfl) ?_
          refine iV (wr := [(nw, .inl (G.2.1, 1662, .inl fnw)), (nsh, .inl (G.2.1, 4, .inl fnsh)), (nsf, .inl (G.2.1, 4, .inl fnsf))]) hC hK hl hP hD hS hA (m_dealt0 l G h0 x3 nw nk mhasKept nt mtaped nr mrowMany mroundOf mroundFrom mouts nm mfromHour mtoHour ns mfrom mto msort misFault mdeep mcoded mlines nl nc nF np ntr nb mbestCost nso nsi nit nsh nsf nss nrc 0 3 (nI jno) (fnw (32 + 6 * jno + 0)) (fnw (32 + 6 * jno + 2)) 0 fnrc (by omega) (by omega)) si_X12_372 [0, 4] [1, 2, 3] rfl rfl (by decide) rfl (by decide) (by decide) rfl rfl rfl rfl rfl (Nat.le_of_ble_eq_true rfl) ⟨Nat.le_of_ble_eq_true rfl, Nat.le_of_ble_eq_true rfl⟩ ⟨Nat.le_of_ble_eq_true rfl, Nat.le_of_ble_eq_true rfl⟩ dX12_deal_205 (fun r6733 u6734 H locs hr6733 hP hD hS => ?_)
          obtain ⟨jr16735, ip16736, gtrc6737⟩ := u6734
          try dsimp only at hr6733
          have hP : va_P G.1 vwCl [(nw, .inl (G.2.1, 1662, .inl fnw)), (nsh, .inl (G.2.1, 4, .inl fnsh)), (nsf, .inl (G.2.1, 4, .inl fnsf)), (h0, .inr (12, [.ref nw, .ref nk, .int mhasKept, .ref nt, .int mtaped, .ref nr, .int mrowMany, .int mroundOf, .int mroundFrom, .int mouts, .ref nm, .int mfromHour, .int mtoHour, .ref ns, .int mfrom, .int mto, .int msort, .int misFault, .int mdeep, .int mcoded, .int mlines, .ref nl, .ref nc, .ref nF, .ref np, .ref ntr, .ref nb, .int mbestCost, .ref nso, .ref nsi, .ref nit, .ref nsh, .ref nsf, .ref nss, .ref nrc, .int (nI jr16735), .int 3, .int (nI jno), .int (fnw (32 + 6 * jno + 0)), .int (fnw (32 + 6 * jno + 2)), .int ip16736])), (nrc, .inl (G.2.1, 30, .inl gtrc6737))] H := hP
          have hD : va_D A [(nw, .inl (G.2.1, 1662, .inl fnw)), (nsh, .inl (G.2.1, 4, .inl fnsh)), (nsf, .inl (G.2.1, 4, .inl fnsf)), (h0, .inr (12, [.ref nw, .ref nk, .int mhasKept, .ref nt, .int mtaped, .ref nr, .int mrowMany, .int mroundOf, .int mroundFrom, .int mouts, .ref nm, .int mfromHour, .int mtoHour, .ref ns, .int mfrom, .int mto, .int msort, .int misFault, .int mdeep, .int mcoded, .int mlines, .ref nl, .ref nc, .ref nF, .ref np, .ref ntr, .ref nb, .int mbestCost, .ref nso, .ref nsi, .ref nit, .ref nsh, .ref nsf, .ref nss, .ref nrc, .int (nI jr16735), .int 3, .int (nI jno), .int (fnw (32 + 6 * jno + 0)), .int (fnw (32 + 6 * jno + 2)), .int ip16736])), (nrc, .inl (G.2.1, 30, .inl gtrc6737))] := hD
          obtain ⟨hr6733, w6738⟩ := hr6733
          refine lv_istore (lv' := [(7, .int r6733), (6, .int 0), (5, .int 1), (4, .int 3), (0, .ref h0), (1, .int (nI jt)), (2, .int 0), (3, .int x3)]) hx hb dX12_deal_208 hl (by decide) rfl (fun ls hl => ?_)
          refine lv_aload_n hx hb dX12_deal_210 rfl (lv_at hl 4 rfl) ?_
          refine gf_X12_380 hC rfl hK hP 3 rfl rfl dX12_deal_211 ?_
          refine lv_if_eq (tgt := 222) hx hb dX12_deal_214 (by decide) (fun c_214_6739 => ?_) (fun c_214_6739 => ?_)
          · refine lv_iload hx hb dX12_deal_222 (lv_at hl 0 rfl) ?_
            exact RI (v := r6733) hC hP hD hS [3, 0, 1, 2, 4] (jr16735, 3, nI jno, fnw (32 + 6 * jno + 0), fnw (32 + 6 * jno + 2), ip16736, gtrc6737) rfl rfl (by decide) (⟨trivial, by omega⟩) rfl dX12_deal_224
          · refine lv_bipush (v := (-15)) hx hb dX12_deal_217 (by decide) ?_
            refine lv_goto (tgt := 224) hx hb dX12_deal_219 (by decide) ?_
            exact RI (v := (-15)) hC hP hD hS [3, 0, 1, 2, 4] (jr16735, 3, nI jno, fnw (32 + 6 * jno + 0), fnw (32 + 6 * jno + 2), ip16736, gtrc6737) rfl rfl (by decide) (⟨trivial, by omega⟩) rfl dX12_deal_224
        · refine lv_aload_n hx hb dX12_deal_202 rfl (lv_at hl 3 rfl) ?_
          refine lv_iload_n hx hb dX12_deal_203 rfl (lv_at hl 5 rfl) ?_
          refine lv_iload_n hx hb dX12_deal_204 rfl (lv_at hl 6 rfl) ?_
          refine iV (wr := [(nw, .inl (G.2.1, 1662, .inl fnw)), (nsh, .inl (G.2.1, 4, .inl fnsh)), (nsf, .inl (G.2.1, 4, .inl fnsf))]) hC hK hl hP hD hS hA (m_dealt1 l G h0 x3 nw nk mhasKept nt mtaped nr mrowMany mroundOf mroundFrom mouts nm mfromHour mtoHour ns mfrom mto msort misFault mdeep mcoded mlines nl nc nF np ntr nb mbestCost nso nsi nit nsh nsf nss nrc 0 3 (nI jno) (fnw (32 + 6 * jno + 0)) (fnw (32 + 6 * jno + 2)) 0 fnrc (by omega) (by omega)) si_X12_372 [0, 4] [1, 2, 3] rfl rfl (by decide) rfl (by decide) (by decide) rfl rfl rfl rfl rfl (Nat.le_of_ble_eq_true rfl) ⟨Nat.le_of_ble_eq_true rfl, Nat.le_of_ble_eq_true rfl⟩ ⟨Nat.le_of_ble_eq_true rfl, Nat.le_of_ble_eq_true rfl⟩ dX12_deal_205 (fun r6740 u6741 H locs hr6740 hP hD hS => ?_)
          obtain ⟨jr16742, ip16743, gtrc6744⟩ := u6741
          try dsimp only at hr6740
          have hP : va_P G.1 vwCl [(nw, .inl (G.2.1, 1662, .inl fnw)), (nsh, .inl (G.2.1, 4, .inl fnsh)), (nsf, .inl (G.2.1, 4, .inl fnsf)), (h0, .inr (12, [.ref nw, .ref nk, .int mhasKept, .ref nt, .int mtaped, .ref nr, .int mrowMany, .int mroundOf, .int mroundFrom, .int mouts, .ref nm, .int mfromHour, .int mtoHour, .ref ns, .int mfrom, .int mto, .int msort, .int misFault, .int mdeep, .int mcoded, .int mlines, .ref nl, .ref nc, .ref nF, .ref np, .ref ntr, .ref nb, .int mbestCost, .ref nso, .ref nsi, .ref nit, .ref nsh, .ref nsf, .ref nss, .ref nrc, .int (nI jr16742), .int 3, .int (nI jno), .int (fnw (32 + 6 * jno + 0)), .int (fnw (32 + 6 * jno + 2)), .int ip16743])), (nrc, .inl (G.2.1, 30, .inl gtrc6744))] H := hP
          have hD : va_D A [(nw, .inl (G.2.1, 1662, .inl fnw)), (nsh, .inl (G.2.1, 4, .inl fnsh)), (nsf, .inl (G.2.1, 4, .inl fnsf)), (h0, .inr (12, [.ref nw, .ref nk, .int mhasKept, .ref nt, .int mtaped, .ref nr, .int mrowMany, .int mroundOf, .int mroundFrom, .int mouts, .ref nm, .int mfromHour, .int mtoHour, .ref ns, .int mfrom, .int mto, .int msort, .int misFault, .int mdeep, .int mcoded, .int mlines, .ref nl, .ref nc, .ref nF, .ref np, .ref ntr, .ref nb, .int mbestCost, .ref nso, .ref nsi, .ref nit, .ref nsh, .ref nsf, .ref nss, .ref nrc, .int (nI jr16742), .int 3, .int (nI jno), .int (fnw (32 + 6 * jno + 0)), .int (fnw (32 + 6 * jno + 2)), .int ip16743])), (nrc, .inl (G.2.1, 30, .inl gtrc6744))] := hD
          obtain ⟨hr6740, w6745⟩ := hr6740
          refine lv_istore (lv' := [(7, .int r6740), (6, .int 0), (5, .int 1), (4, .int 3), (0, .ref h0), (1, .int (nI jt)), (2, .int 1), (3, .int x3)]) hx hb dX12_deal_208 hl (by decide) rfl (fun ls hl => ?_)
          refine lv_aload_n hx hb dX12_deal_210 rfl (lv_at hl 4 rfl) ?_
          refine gf_X12_380 hC rfl hK hP 3 rfl rfl dX12_deal_211 ?_
          refine lv_if_eq (tgt := 222) hx hb dX12_deal_214 (by decide) (fun c_214_6746 => ?_) (fun c_214_6746 => ?_)
          · refine lv_iload hx hb dX12_deal_222 (lv_at hl 0 rfl) ?_
            exact RI (v := r6740) hC hP hD hS [3, 0, 1, 2, 4] (jr16742, 3, nI jno, fnw (32 + 6 * jno + 0), fnw (32 + 6 * jno + 2), ip16743, gtrc6744) rfl rfl (by decide) (⟨trivial, by omega⟩) rfl dX12_deal_224
          · refine lv_bipush (v := (-15)) hx hb dX12_deal_217 (by decide) ?_
            refine lv_goto (tgt := 224) hx hb dX12_deal_219 (by decide) ?_
            exact RI (v := (-15)) hC hP hD hS [3, 0, 1, 2, 4] (jr16742, 3, nI jno, fnw (32 + 6 * jno + 0), fnw (32 + 6 * jno + 2), ip16743, gtrc6744) rfl rfl (by decide) (⟨trivial, by omega⟩) rfl dX12_deal_224
        · refine lv_aload_n hx hb dX12_deal_202 rfl (lv_at hl 3 rfl) ?_
          refine lv_iload_n hx hb dX12_deal_203 rfl (lv_at hl 5 rfl) ?_
          refine lv_iload_n hx hb dX12_deal_204 rfl (lv_at hl 6 rfl) ?_
          refine iV (wr := [(nw, .inl (G.2.1, 1662, .inl fnw)), (nsh, .inl (G.2.1, 4, .inl fnsh)), (nsf, .inl (G.2.1, 4, .inl fnsf))]) hC hK hl hP hD hS hA (m_dealt2 l G h0 x3 nw nk mhasKept nt mtaped nr mrowMany mroundOf mroundFrom mouts nm mfromHour mtoHour ns mfrom mto msort misFault mdeep mcoded mlines nl nc nF np ntr nb mbestCost nso nsi nit nsh nsf nss nrc 0 3 (nI jno) (fnw (32 + 6 * jno + 0)) (fnw (32 + 6 * jno + 2)) 0 fnrc (by omega) (by omega)) si_X12_372 [0, 4] [1, 2, 3] rfl rfl (by decide) rfl (by decide) (by decide) rfl rfl rfl rfl rfl (Nat.le_of_ble_eq_true rfl) ⟨Nat.le_of_ble_eq_true rfl, Nat.le_of_ble_eq_true rfl⟩ ⟨Nat.le_of_ble_eq_true rfl, Nat.le_of_ble_eq_true rfl⟩ dX12_deal_205 (fun r6747 u6748 H locs hr6747 hP hD hS => ?_)
          obtain ⟨jr16749, ip16750, gtrc6751⟩ := u6748
          try dsimp only at hr6747
          have hP : va_P G.1 vwCl [(nw, .inl (G.2.1, 1662, .inl fnw)), (nsh, .inl (G.2.1, 4, .inl fnsh)), (nsf, .inl (G.2.1, 4, .inl fnsf)), (h0, .inr (12, [.ref nw, .ref nk, .int mhasKept, .ref nt, .int mtaped, .ref nr, .int mrowMany, .int mroundOf, .int mroundFrom, .int mouts, .ref nm, .int mfromHour, .int mtoHour, .ref ns, .int mfrom, .int mto, .int msort, .int misFault, .int mdeep, .int mcoded, .int mlines, .ref nl, .ref nc, .ref nF, .ref np, .ref ntr, .ref nb, .int mbestCost, .ref nso, .ref nsi, .ref nit, .ref nsh, .ref nsf, .ref nss, .ref nrc, .int (nI jr16749), .int 3, .int (nI jno), .int (fnw (32 + 6 * jno + 0)), .int (fnw (32 + 6 * jno + 2)), .int ip16750])), (nrc, .inl (G.2.1, 30, .inl gtrc6751))] H := hP
          have hD : va_D A [(nw, .inl (G.2.1, 1662, .inl fnw)), (nsh, .inl (G.2.1, 4, .inl fnsh)), (nsf, .inl (G.2.1, 4, .inl fnsf)), (h0, .inr (12, [.ref nw, .ref nk, .int mhasKept, .ref nt, .int mtaped, .ref nr, .int mrowMany, .int mroundOf, .int mroundFrom, .int mouts, .ref nm, .int mfromHour, .int mtoHour, .ref ns, .int mfrom, .int mto, .int msort, .int misFault, .int mdeep, .int mcoded, .int mlines, .ref nl, .ref nc, .ref nF, .ref np, .ref ntr, .ref nb, .int mbestCost, .ref nso, .ref nsi, .ref nit, .ref nsh, .ref nsf, .ref nss, .ref nrc, .int (nI jr16749), .int 3, .int (nI jno), .int (fnw (32 + 6 * jno + 0)), .int (fnw (32 + 6 * jno + 2)), .int ip16750])), (nrc, .inl (G.2.1, 30, .inl gtrc6751))] := hD
          obtain ⟨hr6747, w6752⟩ := hr6747
          refine lv_istore (lv' := [(7, .int r6747), (6, .int 0), (5, .int 1), (4, .int 3), (0, .ref h0), (1, .int (nI jt)), (2, .int 2), (3, .int x3)]) hx hb dX12_deal_208 hl (by decide) rfl (fun ls hl => ?_)
          refine lv_aload_n hx hb dX12_deal_210 rfl (lv_at hl 4 rfl) ?_
          refine gf_X12_380 hC rfl hK hP 3 rfl rfl dX12_deal_211 ?_
          refine lv_if_eq (tgt := 222) hx hb dX12_deal_214 (by decide) (fun c_214_6753 => ?_) (fun c_214_6753 => ?_)
          · refine lv_iload hx hb dX12_deal_222 (lv_at hl 0 rfl) ?_
            exact RI (v := r6747) hC hP hD hS [3, 0, 1, 2, 4] (jr16749, 3, nI jno, fnw (32 + 6 * jno + 0), fnw (32 + 6 * jno + 2), ip16750, gtrc6751) rfl rfl (by decide) (⟨trivial, by omega⟩) rfl dX12_deal_224
          · refine lv_bipush (v := (-15)) hx hb dX12_deal_217 (by decide) ?_
            refine lv_goto (tgt := 224) hx hb dX12_deal_219 (by decide) ?_
            exact RI (v := (-15)) hC hP hD hS [3, 0, 1, 2, 4] (jr16749, 3, nI jno, fnw (32 + 6 * jno + 0), fnw (32 + 6 * jno + 2), ip16750, gtrc6751) rfl rfl (by decide) (⟨trivial, by omega⟩) rfl dX12_deal_224
        · refine lv_aload_n hx hb dX12_deal_202 rfl (lv_at hl 3 rfl) ?_
          refine lv_iload_n hx hb dX12_deal_203 rfl (lv_at hl 5 rfl) ?_
          refine lv_iload_n hx hb dX12_deal_204 rfl (lv_at hl 6 rfl) ?_
          refine iV (wr := [(nw, .inl (G.2.1, 1662, .inl fnw)), (nsh, .inl (G.2.1, 4, .inl fnsh)), (nsf, .inl (G.2.1, 4, .inl fnsf))]) hC hK hl hP hD hS hA (m_dealt3 l G h0 x3 nw nk mhasKept nt mtaped nr mrowMany mroundOf mroundFrom mouts nm mfromHour mtoHour ns mfrom mto msort misFault mdeep mcoded mlines nl nc nF np ntr nb mbestCost nso nsi nit nsh nsf nss nrc 0 3 (nI jno) (fnw (32 + 6 * jno + 0)) (fnw (32 + 6 * jno + 2)) 0 fnrc (by omega) (by omega)) si_X12_372 [0, 4] [1, 2, 3] rfl rfl (by decide) rfl (by decide) (by decide) rfl rfl rfl rfl rfl (Nat.le_of_ble_eq_true rfl) ⟨Nat.le_of_ble_eq_true rfl, Nat.le_of_ble_eq_true rfl⟩ ⟨Nat.le_of_ble_eq_true rfl, Nat.le_of_ble_eq_true rfl⟩ dX12_deal_205 (fun r6754 u6755 H locs hr6754 hP hD hS => ?_)
          obtain ⟨jr16756, ip16757, gtrc6758⟩ := u6755
          try dsimp only at hr6754
          have hP : va_P G.1 vwCl [(nw, .inl (G.2.1, 1662, .inl fnw)), (nsh, .inl (G.2.1, 4, .inl fnsh)), (nsf, .inl (G.2.1, 4, .inl fnsf)), (h0, .inr (12, [.ref nw, .ref nk, .int mhasKept, .ref nt, .int mtaped, .ref nr, .int mrowMany, .int mroundOf, .int mroundFrom, .int mouts, .ref nm, .int mfromHour, .int mtoHour, .ref ns, .int mfrom, .int mto, .int msort, .int misFault, .int mdeep, .int mcoded, .int mlines, .ref nl, .ref nc, .ref nF, .ref np, .ref ntr, .ref nb, .int mbestCost, .ref nso, .ref nsi, .ref nit, .ref nsh, .ref nsf, .ref nss, .ref nrc, .int (nI jr16756), .int 3, .int (nI jno), .int (fnw (32 + 6 * jno + 0)), .int (fnw (32 + 6 * jno + 2)), .int ip16757])), (nrc, .inl (G.2.1, 30, .inl gtrc6758))] H := hP
          have hD : va_D A [(nw, .inl (G.2.1, 1662, .inl fnw)), (nsh, .inl (G.2.1, 4, .inl fnsh)), (nsf, .inl (G.2.1, 4, .inl fnsf)), (h0, .inr (12, [.ref nw, .ref nk, .int mhasKept, .ref nt, .int mtaped, .ref nr, .int mrowMany, .int mroundOf, .int mroundFrom, .int mouts, .ref nm, .int mfromHour, .int mtoHour, .ref ns, .int mfrom, .int mto, .int msort, .int misFault, .int mdeep, .int mcoded, .int mlines, .ref nl, .ref nc, .ref nF, .ref np, .ref ntr, .ref nb, .int mbestCost, .ref nso, .ref nsi, .ref nit, .ref nsh, .ref nsf, .ref nss, .ref nrc, .int (nI jr16756), .int 3, .int (nI jno), .int (fnw (32 + 6 * jno + 0)), .int (fnw (32 + 6 * jno + 2)), .int ip16757])), (nrc, .inl (G.2.1, 30, .inl gtrc6758))] := hD
          obtain ⟨hr6754, w6759⟩ := hr6754
          refine lv_istore (lv' := [(7, .int r6754), (6, .int 0), (5, .int 1), (4, .int 3), (0, .ref h0), (1, .int (nI jt)), (2, .int 3), (3, .int x3)]) hx hb dX12_deal_208 hl (by decide) rfl (fun ls hl => ?_)
          refine lv_aload_n hx hb dX12_deal_210 rfl (lv_at hl 4 rfl) ?_
          refine gf_X12_380 hC rfl hK hP 3 rfl rfl dX12_deal_211 ?_
          refine lv_if_eq (tgt := 222) hx hb dX12_deal_214 (by decide) (fun c_214_6760 => ?_) (fun c_214_6760 => ?_)
          · refine lv_iload hx hb dX12_deal_222 (lv_at hl 0 rfl) ?_
            exact RI (v := r6754) hC hP hD hS [3, 0, 1, 2, 4] (jr16756, 3, nI jno, fnw (32 + 6 * jno + 0), fnw (32 + 6 * jno + 2), ip16757, gtrc6758) rfl rfl (by decide) (⟨trivial, by omega⟩) rfl dX12_deal_224
          · refine lv_bipush (v := (-15)) hx hb dX12_deal_217 (by decide) ?_
            refine lv_goto (tgt := 224) hx hb dX12_deal_219 (by decide) ?_
            exact RI (v := (-15)) hC hP hD hS [3, 0, 1, 2, 4] (jr16756, 3, nI jno, fnw (32 + 6 * jno + 0), fnw (32 + 6 * jno + 2), ip16757, gtrc6758) rfl rfl (by decide) (⟨trivial, by omega⟩) rfl dX12_deal_224
      · refine lv_istore (lv' := [(4, .int 4), (0, .ref h0), (1, .int (nI jt)), (2, .int x2), (3, .int x3)]) hx hb dX12_deal_28 hl (by decide) rfl (fun ls hl => ?_)
        refine lv_iload hx hb dX12_deal_30 (lv_at hl 0 rfl) ?_
        refine lv_if_ge (tgt := 37) hx hb dX12_deal_32 (by decide) (fun _ => ?_) (fun c9 => absurd (by decide) c9)
        refine lv_aload_n hx hb dX12_deal_37 rfl (lv_at hl 1 rfl) ?_
        refine lv_iload hx hb dX12_deal_38 (lv_at hl 0 rfl) ?_
        refine pf_X12_354 hC rfl hK hP hD hS 0 (ws' := [(h0, .inr (12, [.ref nw, .ref nk, .int mhasKept, .ref nt, .int mtaped, .ref nr, .int mrowMany, .int mroundOf, .int mroundFrom, .int mouts, .ref nm, .int mfromHour, .int mtoHour, .ref ns, .int mfrom, .int mto, .int msort, .int misFault, .int mdeep, .int mcoded, .int mlines, .ref nl, .ref nc, .ref nF, .ref np, .ref ntr, .ref nb, .int mbestCost, .ref nso, .ref nsi, .ref nit, .ref nsh, .ref nsf, .ref nss, .ref nrc, .int 0, .int 4, .int mnumber, .int mwhose, .int msize, .int misParted])), (nw, .inl (G.2.1, 1662, .inl fnw)), (nsh, .inl (G.2.1, 4, .inl fnsh)), (nsf, .inl (G.2.1, 4, .inl fnsf)), (nrc, .inl (G.2.1, 30, .inl fnrc))]) rfl (Nat.le_of_ble_eq_true rfl) rfl rfl rfl dX12_deal_40 (fun H locs hP hD hS => ?_)
        refine lv_aload_n hx hb dX12_deal_43 rfl (lv_at hl 1 rfl) ?_
        refine lv_aload_n hx hb dX12_deal_44 rfl (lv_at hl 1 rfl) ?_
        refine gf_X12_75 hC rfl hK hP 0 rfl rfl dX12_deal_45 ?_
        refine lv_iload_n hx hb dX12_deal_48 rfl (lv_at hl 2 rfl) ?_
        refine ald hC hK hP 3 rfl (vp_in_nI (by omega) (by omega)) (k := jt) (nI_clamp (by omega)) (v := fnsf jt) rfl dX12_deal_49 ?_
        refine lv_topi (fun x6761 ex6761 => ?_)
        obtain ⟨hko9, jno, hjno, ejno⟩ := a6655
        refine eqi (x1 := nI jno) (ex6761.trans ejno) ?_
        refine pf_X12_378 hC rfl hK hP hD hS 0 (ws' := [(h0, .inr (12, [.ref nw, .ref nk, .int mhasKept, .ref nt, .int mtaped, .ref nr, .int mrowMany, .int mroundOf, .int mroundFrom, .int mouts, .ref nm, .int mfromHour, .int mtoHour, .ref ns, .int mfrom, .int mto, .int msort, .int misFault, .int mdeep, .int mcoded, .int mlines, .ref nl, .ref nc, .ref nF, .ref np, .ref ntr, .ref nb, .int mbestCost, .ref nso, .ref nsi, .ref nit, .ref nsh, .ref nsf, .ref nss, .ref nrc, .int 0, .int 4, .int (nI jno), .int mwhose, .int msize, .int misParted])), (nw, .inl (G.2.1, 1662, .inl fnw)), (nsh, .inl (G.2.1, 4, .inl fnsh)), (nsf, .inl (G.2.1, 4, .inl fnsf)), (nrc, .inl (G.2.1, 30, .inl fnrc))]) rfl (Nat.le_of_ble_eq_true rfl) rfl rfl rfl dX12_deal_50 (fun H locs hP hD hS => ?_)
        refine lv_aload_n hx hb dX12_deal_53 rfl (lv_at hl 1 rfl) ?_
        refine gf_X12_72 hC rfl hK hP 0 rfl rfl dX12_deal_54 ?_
        refine lv_iload_n hx hb dX12_deal_57 rfl (lv_at hl 2 rfl) ?_
        refine ald hC hK hP 2 rfl (vp_in_nI (by omega) (by omega)) (k := jt) (nI_clamp (by omega)) (v := fnsh jt) rfl dX12_deal_58 ?_
        refine lv_topi (fun x6762 ex6762 => ?_)
        refine lv_iconst (v := 1) hx hb dX12_deal_59 (by decide) ?_
        refine lv_icmp_ne (tgt := 67) hx hb dX12_deal_60 (by decide) (fun _ => ?_) (fun c9 => absurd c9 (fun h9 => absurd (hko9.symm.trans ((ex6762.symm).trans h9)) (by decide)))
        refine lv_iconst (v := 0) hx hb dX12_deal_67 (by decide) ?_
        refine lv_istore (lv' := [(5, .int 0), (4, .int 4), (0, .ref h0), (1, .int (nI jt)), (2, .int x2), (3, .int x3)]) hx hb dX12_deal_68 hl (by decide) rfl (fun ls hl => ?_)
        refine lv_aload_n hx hb dX12_deal_70 rfl (lv_at hl 2 rfl) ?_
        refine gf_X12_72 hC rfl hK hP 0 rfl rfl dX12_deal_71 ?_
        refine lv_iload_n hx hb dX12_deal_74 rfl (lv_at hl 3 rfl) ?_
        refine ald hC hK hP 2 rfl (vp_in_nI (by omega) (by omega)) (k := jt) (nI_clamp (by omega)) (v := fnsh jt) rfl dX12_deal_75 ?_
        refine lv_topi (fun x6763 ex6763 => ?_)
        refine lv_iconst (v := 2) hx hb dX12_deal_76 (by decide) ?_
        refine lv_icmp_ne (tgt := 84) hx hb dX12_deal_77 (by decide) (fun c9 => absurd (ex6763.trans hko9) c9) (fun _ => ?_)
        refine lv_iconst (v := 1) hx hb dX12_deal_80 (by decide) ?_
        refine lv_goto (tgt := 85) hx hb dX12_deal_81 (by decide) ?_
        refine lv_istore (lv' := [(6, .int 1), (5, .int 0), (4, .int 4), (0, .ref h0), (1, .int (nI jt)), (2, .int x2), (3, .int x3)]) hx hb dX12_deal_85 hl (by decide) rfl (fun ls hl => ?_)
        refine lv_aload_n hx hb dX12_deal_87 rfl (lv_at hl 3 rfl) ?_
        refine lv_iload hx hb dX12_deal_88 (lv_at hl 1 rfl) ?_
        refine lv_if_eq (tgt := 105) hx hb dX12_deal_90 (by decide) (fun _ => ?_) (fun c9 => absurd (by decide) c9)
        refine lv_iload hx hb dX12_deal_105 (lv_at hl 0 rfl) ?_
        refine lv_if_eq (tgt := 122) hx hb dX12_deal_107 (by decide) (fun c9 => absurd c9 (by decide)) (fun _ => ?_)
        refine lv_aload_n hx hb dX12_deal_110 rfl (lv_at hl 3 rfl) ?_
        refine lv_aload_n hx hb dX12_deal_111 rfl (lv_at hl 3 rfl) ?_
        refine gf_X12_378 hC rfl hK hP 0 rfl rfl dX12_deal_112 ?_
        refine lv_iconst (v := 0) hx hb dX12_deal_115 (by decide) ?_
        refine pV hC hK hl hP hD (m_saying l G h0 jno 0 nw nk mhasKept nt mtaped nr mrowMany mroundOf mroundFrom mouts nm mfromHour mtoHour ns mfrom mto msort misFault mdeep mcoded mlines nl nc nF np ntr nb mbestCost nso nsi nit nsh nsf nss nrc 0 4 (nI jno) mwhose msize misParted fnw (by omega) (by omega)) si_X12_114 [0, 1] rfl rfl (by decide) rfl rfl rfl rfl rfl (Nat.le_of_ble_eq_true rfl) ⟨Nat.le_of_ble_eq_true rfl, Nat.le_of_ble_eq_true rfl⟩ ⟨by first | exact Nat.le_of_ble_eq_true rfl | exact Nat.zero_le _, by first | exact Nat.le_of_ble_eq_true rfl | exact Nat.zero_le _⟩ dX12_deal_116 (fun r6764 hr6764 => ?_)
        obtain rfl := hr6764
        refine lv_goto (tgt := 139) hx hb dX12_deal_119 (by decide) ?_
        refine pf_X12_375 hC rfl hK hP hD hS 0 (ws' := [(h0, .inr (12, [.ref nw, .ref nk, .int mhasKept, .ref nt, .int mtaped, .ref nr, .int mrowMany, .int mroundOf, .int mroundFrom, .int mouts, .ref nm, .int mfromHour, .int mtoHour, .ref ns, .int mfrom, .int mto, .int msort, .int misFault, .int mdeep, .int mcoded, .int mlines, .ref nl, .ref nc, .ref nF, .ref np, .ref ntr, .ref nb, .int mbestCost, .ref nso, .ref nsi, .ref nit, .ref nsh, .ref nsf, .ref nss, .ref nrc, .int 0, .int 4, .int (nI jno), .int (fnw (1424 + 8 * jno + 0)), .int msize, .int misParted])), (nw, .inl (G.2.1, 1662, .inl fnw)), (nsh, .inl (G.2.1, 4, .inl fnsh)), (nsf, .inl (G.2.1, 4, .inl fnsf)), (nrc, .inl (G.2.1, 30, .inl fnrc))]) rfl (Nat.le_of_ble_eq_true rfl) rfl rfl rfl dX12_deal_139 (fun H locs hP hD hS => ?_)
        refine lv_aload_n hx hb dX12_deal_142 rfl (lv_at hl 3 rfl) ?_
        refine lv_iload hx hb dX12_deal_143 (lv_at hl 1 rfl) ?_
        refine lv_if_eq (tgt := 160) hx hb dX12_deal_145 (by decide) (fun _ => ?_) (fun c9 => absurd (by decide) c9)
        refine lv_iload hx hb dX12_deal_160 (lv_at hl 0 rfl) ?_
        refine lv_if_eq (tgt := 177) hx hb dX12_deal_162 (by decide) (fun c9 => absurd c9 (by decide)) (fun _ => ?_)
        refine lv_aload_n hx hb dX12_deal_165 rfl (lv_at hl 3 rfl) ?_
        refine lv_aload_n hx hb dX12_deal_166 rfl (lv_at hl 3 rfl) ?_
        refine gf_X12_378 hC rfl hK hP 0 rfl rfl dX12_deal_167 ?_
        refine lv_iconst (v := 4) hx hb dX12_deal_170 (by decide) ?_
        refine pV hC hK hl hP hD (m_saying l G h0 jno 4 nw nk mhasKept nt mtaped nr mrowMany mroundOf mroundFrom mouts nm mfromHour mtoHour ns mfrom mto msort misFault mdeep mcoded mlines nl nc nF np ntr nb mbestCost nso nsi nit nsh nsf nss nrc 0 4 (nI jno) (fnw (1424 + 8 * jno + 0)) msize misParted fnw (by omega) (by omega)) si_X12_114 [0, 1] rfl rfl (by decide) rfl rfl rfl rfl rfl (Nat.le_of_ble_eq_true rfl) ⟨Nat.le_of_ble_eq_true rfl, Nat.le_of_ble_eq_true rfl⟩ ⟨by first | exact Nat.le_of_ble_eq_true rfl | exact Nat.zero_le _, by first | exact Nat.le_of_ble_eq_true rfl | exact Nat.zero_le _⟩ dX12_deal_171 (fun r6766 hr6766 => ?_)
        obtain rfl := hr6766
        refine lv_goto (tgt := 194) hx hb dX12_deal_174 (by decide) ?_
        refine pf_X12_369 hC rfl hK hP hD hS 0 (ws' := [(h0, .inr (12, [.ref nw, .ref nk, .int mhasKept, .ref nt, .int mtaped, .ref nr, .int mrowMany, .int mroundOf, .int mroundFrom, .int mouts, .ref nm, .int mfromHour, .int mtoHour, .ref ns, .int mfrom, .int mto, .int msort, .int misFault, .int mdeep, .int mcoded, .int mlines, .ref nl, .ref nc, .ref nF, .ref np, .ref ntr, .ref nb, .int mbestCost, .ref nso, .ref nsi, .ref nit, .ref nsh, .ref nsf, .ref nss, .ref nrc, .int 0, .int 4, .int (nI jno), .int (fnw (1424 + 8 * jno + 0)), .int (fnw (1424 + 8 * jno + 4)), .int misParted])), (nw, .inl (G.2.1, 1662, .inl fnw)), (nsh, .inl (G.2.1, 4, .inl fnsh)), (nsf, .inl (G.2.1, 4, .inl fnsf)), (nrc, .inl (G.2.1, 30, .inl fnrc))]) rfl (Nat.le_of_ble_eq_true rfl) rfl rfl rfl dX12_deal_194 (fun H locs hP hD hS => ?_)
        refine lv_aload_n hx hb dX12_deal_197 rfl (lv_at hl 3 rfl) ?_
        refine lv_iconst (v := 0) hx hb dX12_deal_198 (by decide) ?_
        refine pf_X12_380 hC rfl hK hP hD hS 0 (ws' := [(h0, .inr (12, [.ref nw, .ref nk, .int mhasKept, .ref nt, .int mtaped, .ref nr, .int mrowMany, .int mroundOf, .int mroundFrom, .int mouts, .ref nm, .int mfromHour, .int mtoHour, .ref ns, .int mfrom, .int mto, .int msort, .int misFault, .int mdeep, .int mcoded, .int mlines, .ref nl, .ref nc, .ref nF, .ref np, .ref ntr, .ref nb, .int mbestCost, .ref nso, .ref nsi, .ref nit, .ref nsh, .ref nsf, .ref nss, .ref nrc, .int 0, .int 4, .int (nI jno), .int (fnw (1424 + 8 * jno + 0)), .int (fnw (1424 + 8 * jno + 4)), .int 0])), (nw, .inl (G.2.1, 1662, .inl fnw)), (nsh, .inl (G.2.1, 4, .inl fnsh)), (nsf, .inl (G.2.1, 4, .inl fnsf)), (nrc, .inl (G.2.1, 30, .inl fnrc))]) rfl (Nat.le_of_ble_eq_true rfl) rfl (by decide +kernel) (by decide +kernel) dX12_deal_199 (fun H locs hP hD hS => ?_)
        obtain ⟨jdl, hjdl, rfl⟩ := Wi_nat (N := 3) (by decide) a6653
        rcases (show jdl = 0 ∨ jdl = 1 ∨ jdl = 2 ∨ jdl = 3 by omega) with rfl | rfl | rfl | rfl
        · refine lv_aload_n hx hb dX12_deal_202 rfl (lv_at hl 3 rfl) ?_
          refine lv_iload_n hx hb dX12_deal_203 rfl (lv_at hl 5 rfl) ?_
          refine lv_iload_n hx hb dX12_deal_204 rfl (lv_at hl 6 rfl) ?_
          refine iV (wr := [(nw, .inl (G.2.1, 1662, .inl fnw)), (nsh, .inl (G.2.1, 4, .inl fnsh)), (nsf, .inl (G.2.1, 4, .inl fnsf))]) hC hK hl hP hD hS hA (m_dealt0 l G h0 x3 nw nk mhasKept nt mtaped nr mrowMany mroundOf mroundFrom mouts nm mfromHour mtoHour ns mfrom mto msort misFault mdeep mcoded mlines nl nc nF np ntr nb mbestCost nso nsi nit nsh nsf nss nrc 0 4 (nI jno) (fnw (1424 + 8 * jno + 0)) (fnw (1424 + 8 * jno + 4)) 0 fnrc (by omega) (by omega)) si_X12_372 [0, 4] [1, 2, 3] rfl rfl (by decide) rfl (by decide) (by decide) rfl rfl rfl rfl rfl (Nat.le_of_ble_eq_true rfl) ⟨Nat.le_of_ble_eq_true rfl, Nat.le_of_ble_eq_true rfl⟩ ⟨Nat.le_of_ble_eq_true rfl, Nat.le_of_ble_eq_true rfl⟩ dX12_deal_205 (fun r6768 u6769 H locs hr6768 hP hD hS => ?_)
          obtain ⟨jr16770, ip16771, gtrc6772⟩ := u6769
          try dsimp only at hr6768
          have hP : va_P G.1 vwCl [(nw, .inl (G.2.1, 1662, .inl fnw)), (nsh, .inl (G.2.1, 4, .inl fnsh)), (nsf, .inl (G.2.1, 4, .inl fnsf)), (h0, .inr (12, [.ref nw, .ref nk, .int mhasKept, .ref nt, .int mtaped, .ref nr, .int mrowMany, .int mroundOf, .int mroundFrom, .int mouts, .ref nm, .int mfromHour, .int mtoHour, .ref ns, .int mfrom, .int mto, .int msort, .int misFault, .int mdeep, .int mcoded, .int mlines, .ref nl, .ref nc, .ref nF, .ref np, .ref ntr, .ref nb, .int mbestCost, .ref nso, .ref nsi, .ref nit, .ref nsh, .ref nsf, .ref nss, .ref nrc, .int (nI jr16770), .int 4, .int (nI jno), .int (fnw (1424 + 8 * jno + 0)), .int (fnw (1424 + 8 * jno + 4)), .int ip16771])), (nrc, .inl (G.2.1, 30, .inl gtrc6772))] H := hP
          have hD : va_D A [(nw, .inl (G.2.1, 1662, .inl fnw)), (nsh, .inl (G.2.1, 4, .inl fnsh)), (nsf, .inl (G.2.1, 4, .inl fnsf)), (h0, .inr (12, [.ref nw, .ref nk, .int mhasKept, .ref nt, .int mtaped, .ref nr, .int mrowMany, .int mroundOf, .int mroundFrom, .int mouts, .ref nm, .int mfromHour, .int mtoHour, .ref ns, .int mfrom, .int mto, .int msort, .int misFault, .int mdeep, .int mcoded, .int mlines, .ref nl, .ref nc, .ref nF, .ref np, .ref ntr, .ref nb, .int mbestCost, .ref nso, .ref nsi, .ref nit, .ref nsh, .ref nsf, .ref nss, .ref nrc, .int (nI jr16770), .int 4, .int (nI jno), .int (fnw (1424 + 8 * jno + 0)), .int (fnw (1424 + 8 * jno + 4)), .int ip16771])), (nrc, .inl (G.2.1, 30, .inl gtrc6772))] := hD
          obtain ⟨hr6768, w6773⟩ := hr6768
          refine lv_istore (lv' := [(7, .int r6768), (6, .int 1), (5, .int 0), (4, .int 4), (0, .ref h0), (1, .int (nI jt)), (2, .int 0), (3, .int x3)]) hx hb dX12_deal_208 hl (by decide) rfl (fun ls hl => ?_)
          refine lv_aload_n hx hb dX12_deal_210 rfl (lv_at hl 4 rfl) ?_
          refine gf_X12_380 hC rfl hK hP 3 rfl rfl dX12_deal_211 ?_
          refine lv_if_eq (tgt := 222) hx hb dX12_deal_214 (by decide) (fun c_214_6774 => ?_) (fun c_214_6774 => ?_)
          · refine lv_iload hx hb dX12_deal_222 (lv_at hl 0 rfl) ?_
            exact RI (v := r6768) hC hP hD hS [3, 0, 1, 2, 4] (jr16770, 4, nI jno, fnw (1424 + 8 * jno + 0), fnw (1424 + 8 * jno + 4), ip16771, gtrc6772) rfl rfl (by decide) (⟨trivial, by omega⟩) rfl dX12_deal_224
          · refine lv_bipush (v := (-15)) hx hb dX12_deal_217 (by decide) ?_
            refine lv_goto (tgt := 224) hx hb dX12_deal_219 (by decide) ?_
            exact RI (v := (-15)) hC hP hD hS [3, 0, 1, 2, 4] (jr16770, 4, nI jno, fnw (1424 + 8 * jno + 0), fnw (1424 + 8 * jno + 4), ip16771, gtrc6772) rfl rfl (by decide) (⟨trivial, by omega⟩) rfl dX12_deal_224
        · refine lv_aload_n hx hb dX12_deal_202 rfl (lv_at hl 3 rfl) ?_
          refine lv_iload_n hx hb dX12_deal_203 rfl (lv_at hl 5 rfl) ?_
          refine lv_iload_n hx hb dX12_deal_204 rfl (lv_at hl 6 rfl) ?_
          refine iV (wr := [(nw, .inl (G.2.1, 1662, .inl fnw)), (nsh, .inl (G.2.1, 4, .inl fnsh)), (nsf, .inl (G.2.1, 4, .inl fnsf))]) hC hK hl hP hD hS hA (m_dealt1 l G h0 x3 nw nk mhasKept nt mtaped nr mrowMany mroundOf mroundFrom mouts nm mfromHour mtoHour ns mfrom mto msort misFault mdeep mcoded mlines nl nc nF np ntr nb mbestCost nso nsi nit nsh nsf nss nrc 0 4 (nI jno) (fnw (1424 + 8 * jno + 0)) (fnw (1424 + 8 * jno + 4)) 0 fnrc (by omega) (by omega)) si_X12_372 [0, 4] [1, 2, 3] rfl rfl (by decide) rfl (by decide) (by decide) rfl rfl rfl rfl rfl (Nat.le_of_ble_eq_true rfl) ⟨Nat.le_of_ble_eq_true rfl, Nat.le_of_ble_eq_true rfl⟩ ⟨Nat.le_of_ble_eq_true rfl, Nat.le_of_ble_eq_true rfl⟩ dX12_deal_205 (fun r6775 u6776 H locs hr6775 hP hD hS => ?_)
          obtain ⟨jr16777, ip16778, gtrc6779⟩ := u6776
          try dsimp only at hr6775
          have hP : va_P G.1 vwCl [(nw, .inl (G.2.1, 1662, .inl fnw)), (nsh, .inl (G.2.1, 4, .inl fnsh)), (nsf, .inl (G.2.1, 4, .inl fnsf)), (h0, .inr (12, [.ref nw, .ref nk, .int mhasKept, .ref nt, .int mtaped, .ref nr, .int mrowMany, .int mroundOf, .int mroundFrom, .int mouts, .ref nm, .int mfromHour, .int mtoHour, .ref ns, .int mfrom, .int mto, .int msort, .int misFault, .int mdeep, .int mcoded, .int mlines, .ref nl, .ref nc, .ref nF, .ref np, .ref ntr, .ref nb, .int mbestCost, .ref nso, .ref nsi, .ref nit, .ref nsh, .ref nsf, .ref nss, .ref nrc, .int (nI jr16777), .int 4, .int (nI jno), .int (fnw (1424 + 8 * jno + 0)), .int (fnw (1424 + 8 * jno + 4)), .int ip16778])), (nrc, .inl (G.2.1, 30, .inl gtrc6779))] H := hP
          have hD : va_D A [(nw, .inl (G.2.1, 1662, .inl fnw)), (nsh, .inl (G.2.1, 4, .inl fnsh)), (nsf, .inl (G.2.1, 4, .inl fnsf)), (h0, .inr (12, [.ref nw, .ref nk, .int mhasKept, .ref nt, .int mtaped, .ref nr, .int mrowMany, .int mroundOf, .int mroundFrom, .int mouts, .ref nm, .int mfromHour, .int mtoHour, .ref ns, .int mfrom, .int mto, .int msort, .int misFault, .int mdeep, .int mcoded, .int mlines, .ref nl, .ref nc, .ref nF, .ref np, .ref ntr, .ref nb, .int mbestCost, .ref nso, .ref nsi, .ref nit, .ref nsh, .ref nsf, .ref nss, .ref nrc, .int (nI jr16777), .int 4, .int (nI jno), .int (fnw (1424 + 8 * jno + 0)), .int (fnw (1424 + 8 * jno + 4)), .int ip16778])), (nrc, .inl (G.2.1, 30, .inl gtrc6779))] := hD
          obtain ⟨hr6775, w6780⟩ := hr6775
          refine lv_istore (lv' := [(7, .int r6775), (6, .int 1), (5, .int 0), (4, .int 4), (0, .ref h0), (1, .int (nI jt)), (2, .int 1), (3, .int x3)]) hx hb dX12_deal_208 hl (by decide) rfl (fun ls hl => ?_)
          refine lv_aload_n hx hb dX12_deal_210 rfl (lv_at hl 4 rfl) ?_
          refine gf_X12_380 hC rfl hK hP 3 rfl rfl dX12_deal_211 ?_
          refine lv_if_eq (tgt := 222) hx hb dX12_deal_214 (by decide) (fun c_214_6781 => ?_) (fun c_214_6781 => ?_)
          · refine lv_iload hx hb dX12_deal_222 (lv_at hl 0 rfl) ?_
            exact RI (v := r6775) hC hP hD hS [3, 0, 1, 2, 4] (jr16777, 4, nI jno, fnw (1424 + 8 * jno + 0), fnw (1424 + 8 * jno + 4), ip16778, gtrc6779) rfl rfl (by decide) (⟨trivial, by omega⟩) rfl dX12_deal_224
          · refine lv_bipush (v := (-15)) hx hb dX12_deal_217 (by decide) ?_
            refine lv_goto (tgt := 224) hx hb dX12_deal_219 (by decide) ?_
            exact RI (v := (-15)) hC hP hD hS [3, 0, 1, 2, 4] (jr16777, 4, nI jno, fnw (1424 + 8 * jno + 0), fnw (1424 + 8 * jno + 4), ip16778, gtrc6779) rfl rfl (by decide) (⟨trivial, by omega⟩) rfl dX12_deal_224
        · refine lv_aload_n hx hb dX12_deal_202 rfl (lv_at hl 3 rfl) ?_
          refine lv_iload_n hx hb dX12_deal_203 rfl (lv_at hl 5 rfl) ?_
          refine lv_iload_n hx hb dX12_deal_204 rfl (lv_at hl 6 rfl) ?_
          refine iV (wr := [(nw, .inl (G.2.1, 1662, .inl fnw)), (nsh, .inl (G.2.1, 4, .inl fnsh)), (nsf, .inl (G.2.1, 4, .inl fnsf))]) hC hK hl hP hD hS hA (m_dealt2 l G h0 x3 nw nk mhasKept nt mtaped nr mrowMany mroundOf mroundFrom mouts nm mfromHour mtoHour ns mfrom mto msort misFault mdeep mcoded mlines nl nc nF np ntr nb mbestCost nso nsi nit nsh nsf nss nrc 0 4 (nI jno) (fnw (1424 + 8 * jno + 0)) (fnw (1424 + 8 * jno + 4)) 0 fnrc (by omega) (by omega)) si_X12_372 [0, 4] [1, 2, 3] rfl rfl (by decide) rfl (by decide) (by decide) rfl rfl rfl rfl rfl (Nat.le_of_ble_eq_true rfl) ⟨Nat.le_of_ble_eq_true rfl, Nat.le_of_ble_eq_true rfl⟩ ⟨Nat.le_of_ble_eq_true rfl, Nat.le_of_ble_eq_true rfl⟩ dX12_deal_205 (fun r6782 u6783 H locs hr6782 hP hD hS => ?_)
          obtain ⟨jr16784, ip16785, gtrc6786⟩ := u6783
          try dsimp only at hr6782
          have hP : va_P G.1 vwCl [(nw, .inl (G.2.1, 1662, .inl fnw)), (nsh, .inl (G.2.1, 4, .inl fnsh)), (nsf, .inl (G.2.1, 4, .inl fnsf)), (h0, .inr (12, [.ref nw, .ref nk, .int mhasKept, .ref nt, .int mtaped, .ref nr, .int mrowMany, .int mroundOf, .int mroundFrom, .int mouts, .ref nm, .int mfromHour, .int mtoHour, .ref ns, .int mfrom, .int mto, .int msort, .int misFault, .int mdeep, .int mcoded, .int mlines, .ref nl, .ref nc, .ref nF, .ref np, .ref ntr, .ref nb, .int mbestCost, .ref nso, .ref nsi, .ref nit, .ref nsh, .ref nsf, .ref nss, .ref nrc, .int (nI jr16784), .int 4, .int (nI jno), .int (fnw (1424 + 8 * jno + 0)), .int (fnw (1424 + 8 * jno + 4)), .int ip16785])), (nrc, .inl (G.2.1, 30, .inl gtrc6786))] H := hP
          have hD : va_D A [(nw, .inl (G.2.1, 1662, .inl fnw)), (nsh, .inl (G.2.1, 4, .inl fnsh)), (nsf, .inl (G.2.1, 4, .inl fnsf)), (h0, .inr (12, [.ref nw, .ref nk, .int mhasKept, .ref nt, .int mtaped, .ref nr, .int mrowMany, .int mroundOf, .int mroundFrom, .int mouts, .ref nm, .int mfromHour, .int mtoHour, .ref ns, .int mfrom, .int mto, .int msort, .int misFault, .int mdeep, .int mcoded, .int mlines, .ref nl, .ref nc, .ref nF, .ref np, .ref ntr, .ref nb, .int mbestCost, .ref nso, .ref nsi, .ref nit, .ref nsh, .ref nsf, .ref nss, .ref nrc, .int (nI jr16784), .int 4, .int (nI jno), .int (fnw (1424 + 8 * jno + 0)), .int (fnw (1424 + 8 * jno + 4)), .int ip16785])), (nrc, .inl (G.2.1, 30, .inl gtrc6786))] := hD
          obtain ⟨hr6782, w6787⟩ := hr6782
          refine lv_istore (lv' := [(7, .int r6782), (6, .int 1), (5, .int 0), (4, .int 4), (0, .ref h0), (1, .int (nI jt)), (2, .int 2), (3, .int x3)]) hx hb dX12_deal_208 hl (by decide) rfl (fun ls hl => ?_)
          refine lv_aload_n hx hb dX12_deal_210 rfl (lv_at hl 4 rfl) ?_
          refine gf_X12_380 hC rfl hK hP 3 rfl rfl dX12_deal_211 ?_
          refine lv_if_eq (tgt := 222) hx hb dX12_deal_214 (by decide) (fun c_214_6788 => ?_) (fun c_214_6788 => ?_)
          · refine lv_iload hx hb dX12_deal_222 (lv_at hl 0 rfl) ?_
            exact RI (v := r6782) hC hP hD hS [3, 0, 1, 2, 4] (jr16784, 4, nI jno, fnw (1424 + 8 * jno + 0), fnw (1424 + 8 * jno + 4), ip16785, gtrc6786) rfl rfl (by decide) (⟨trivial, by omega⟩) rfl dX12_deal_224
          · refine lv_bipush (v := (-15)) hx hb dX12_deal_217 (by decide) ?_
            refine lv_goto (tgt := 224) hx hb dX12_deal_219 (by decide) ?_
            exact RI (v := (-15)) hC hP hD hS [3, 0, 1, 2, 4] (jr16784, 4, nI jno, fnw (1424 + 8 * jno + 0), fnw (1424 + 8 * jno + 4), ip16785, gtrc6786) rfl rfl (by decide) (⟨trivial, by omega⟩) rfl dX12_deal_224
        · refine lv_aload_n hx hb dX12_deal_202 rfl (lv_at hl 3 rfl) ?_
          refine lv_iload_n hx hb dX12_deal_203 rfl (lv_at hl 5 rfl) ?_
          refine lv_iload_n hx hb dX12_deal_204 rfl (lv_at hl 6 rfl) ?_
          refine iV (wr := [(nw, .inl (G.2.1, 1662, .inl fnw)), (nsh, .inl (G.2.1, 4, .inl fnsh)), (nsf, .inl (G.2.1, 4, .inl fnsf))]) hC hK hl hP hD hS hA (m_dealt3 l G h0 x3 nw nk mhasKept nt mtaped nr mrowMany mroundOf mroundFrom mouts nm mfromHour mtoHour ns mfrom mto msort misFault mdeep mcoded mlines nl nc nF np ntr nb mbestCost nso nsi nit nsh nsf nss nrc 0 4 (nI jno) (fnw (1424 + 8 * jno + 0)) (fnw (1424 + 8 * jno + 4)) 0 fnrc (by omega) (by omega)) si_X12_372 [0, 4] [1, 2, 3] rfl rfl (by decide) rfl (by decide) (by decide) rfl rfl rfl rfl rfl (Nat.le_of_ble_eq_true rfl) ⟨Nat.le_of_ble_eq_true rfl, Nat.le_of_ble_eq_true rfl⟩ ⟨Nat.le_of_ble_eq_true rfl, Nat.le_of_ble_eq_true rfl⟩ dX12_deal_205 (fun r6789 u6790 H locs hr6789 hP hD hS => ?_)
          obtain ⟨jr16791, ip16792, gtrc6793⟩ := u6790
          try dsimp only at hr6789
          have hP : va_P G.1 vwCl [(nw, .inl (G.2.1, 1662, .inl fnw)), (nsh, .inl (G.2.1, 4, .inl fnsh)), (nsf, .inl (G.2.1, 4, .inl fnsf)), (h0, .inr (12, [.ref nw, .ref nk, .int mhasKept, .ref nt, .int mtaped, .ref nr, .int mrowMany, .int mroundOf, .int mroundFrom, .int mouts, .ref nm, .int mfromHour, .int mtoHour, .ref ns, .int mfrom, .int mto, .int msort, .int misFault, .int mdeep, .int mcoded, .int mlines, .ref nl, .ref nc, .ref nF, .ref np, .ref ntr, .ref nb, .int mbestCost, .ref nso, .ref nsi, .ref nit, .ref nsh, .ref nsf, .ref nss, .ref nrc, .int (nI jr16791), .int 4, .int (nI jno), .int (fnw (1424 + 8 * jno + 0)), .int (fnw (1424 + 8 * jno + 4)), .int ip16792])), (nrc, .inl (G.2.1, 30, .inl gtrc6793))] H := hP
          have hD : va_D A [(nw, .inl (G.2.1, 1662, .inl fnw)), (nsh, .inl (G.2.1, 4, .inl fnsh)), (nsf, .inl (G.2.1, 4, .inl fnsf)), (h0, .inr (12, [.ref nw, .ref nk, .int mhasKept, .ref nt, .int mtaped, .ref nr, .int mrowMany, .int mroundOf, .int mroundFrom, .int mouts, .ref nm, .int mfromHour, .int mtoHour, .ref ns, .int mfrom, .int mto, .int msort, .int misFault, .int mdeep, .int mcoded, .int mlines, .ref nl, .ref nc, .ref nF, .ref np, .ref ntr, .ref nb, .int mbestCost, .ref nso, .ref nsi, .ref nit, .ref nsh, .ref nsf, .ref nss, .ref nrc, .int (nI jr16791), .int 4, .int (nI jno), .int (fnw (1424 + 8 * jno + 0)), .int (fnw (1424 + 8 * jno + 4)), .int ip16792])), (nrc, .inl (G.2.1, 30, .inl gtrc6793))] := hD
          obtain ⟨hr6789, w6794⟩ := hr6789
          refine lv_istore (lv' := [(7, .int r6789), (6, .int 1), (5, .int 0), (4, .int 4), (0, .ref h0), (1, .int (nI jt)), (2, .int 3), (3, .int x3)]) hx hb dX12_deal_208 hl (by decide) rfl (fun ls hl => ?_)
          refine lv_aload_n hx hb dX12_deal_210 rfl (lv_at hl 4 rfl) ?_
          refine gf_X12_380 hC rfl hK hP 3 rfl rfl dX12_deal_211 ?_
          refine lv_if_eq (tgt := 222) hx hb dX12_deal_214 (by decide) (fun c_214_6795 => ?_) (fun c_214_6795 => ?_)
          · refine lv_iload hx hb dX12_deal_222 (lv_at hl 0 rfl) ?_
            exact RI (v := r6789) hC hP hD hS [3, 0, 1, 2, 4] (jr16791, 4, nI jno, fnw (1424 + 8 * jno + 0), fnw (1424 + 8 * jno + 4), ip16792, gtrc6793) rfl rfl (by decide) (⟨trivial, by omega⟩) rfl dX12_deal_224
          · refine lv_bipush (v := (-15)) hx hb dX12_deal_217 (by decide) ?_
            refine lv_goto (tgt := 224) hx hb dX12_deal_219 (by decide) ?_
            exact RI (v := (-15)) hC hP hD hS [3, 0, 1, 2, 4] (jr16791, 4, nI jno, fnw (1424 + 8 * jno + 0), fnw (1424 + 8 * jno + 4), ip16792, gtrc6793) rfl rfl (by decide) (⟨trivial, by omega⟩) rfl dX12_deal_224
      · refine lv_istore (lv' := [(4, .int 5), (0, .ref h0), (1, .int (nI jt)), (2, .int x2), (3, .int x3)]) hx hb dX12_deal_28 hl (by decide) rfl (fun ls hl => ?_)
        refine lv_iload hx hb dX12_deal_30 (lv_at hl 0 rfl) ?_
        refine lv_if_ge (tgt := 37) hx hb dX12_deal_32 (by decide) (fun _ => ?_) (fun c9 => absurd (by decide) c9)
        refine lv_aload_n hx hb dX12_deal_37 rfl (lv_at hl 1 rfl) ?_
        refine lv_iload hx hb dX12_deal_38 (lv_at hl 0 rfl) ?_
        refine pf_X12_354 hC rfl hK hP hD hS 0 (ws' := [(h0, .inr (12, [.ref nw, .ref nk, .int mhasKept, .ref nt, .int mtaped, .ref nr, .int mrowMany, .int mroundOf, .int mroundFrom, .int mouts, .ref nm, .int mfromHour, .int mtoHour, .ref ns, .int mfrom, .int mto, .int msort, .int misFault, .int mdeep, .int mcoded, .int mlines, .ref nl, .ref nc, .ref nF, .ref np, .ref ntr, .ref nb, .int mbestCost, .ref nso, .ref nsi, .ref nit, .ref nsh, .ref nsf, .ref nss, .ref nrc, .int 0, .int 5, .int mnumber, .int mwhose, .int msize, .int misParted])), (nw, .inl (G.2.1, 1662, .inl fnw)), (nsh, .inl (G.2.1, 4, .inl fnsh)), (nsf, .inl (G.2.1, 4, .inl fnsf)), (nrc, .inl (G.2.1, 30, .inl fnrc))]) rfl (Nat.le_of_ble_eq_true rfl) rfl rfl rfl dX12_deal_40 (fun H locs hP hD hS => ?_)
        refine lv_aload_n hx hb dX12_deal_43 rfl (lv_at hl 1 rfl) ?_
        refine lv_aload_n hx hb dX12_deal_44 rfl (lv_at hl 1 rfl) ?_
        refine gf_X12_75 hC rfl hK hP 0 rfl rfl dX12_deal_45 ?_
        refine lv_iload_n hx hb dX12_deal_48 rfl (lv_at hl 2 rfl) ?_
        refine ald hC hK hP 3 rfl (vp_in_nI (by omega) (by omega)) (k := jt) (nI_clamp (by omega)) (v := fnsf jt) rfl dX12_deal_49 ?_
        refine lv_topi (fun x6796 ex6796 => ?_)
        obtain ⟨hko9, jno, hjno, ejno⟩ := a6655
        refine eqi (x1 := nI jno) (ex6796.trans ejno) ?_
        refine pf_X12_378 hC rfl hK hP hD hS 0 (ws' := [(h0, .inr (12, [.ref nw, .ref nk, .int mhasKept, .ref nt, .int mtaped, .ref nr, .int mrowMany, .int mroundOf, .int mroundFrom, .int mouts, .ref nm, .int mfromHour, .int mtoHour, .ref ns, .int mfrom, .int mto, .int msort, .int misFault, .int mdeep, .int mcoded, .int mlines, .ref nl, .ref nc, .ref nF, .ref np, .ref ntr, .ref nb, .int mbestCost, .ref nso, .ref nsi, .ref nit, .ref nsh, .ref nsf, .ref nss, .ref nrc, .int 0, .int 5, .int (nI jno), .int mwhose, .int msize, .int misParted])), (nw, .inl (G.2.1, 1662, .inl fnw)), (nsh, .inl (G.2.1, 4, .inl fnsh)), (nsf, .inl (G.2.1, 4, .inl fnsf)), (nrc, .inl (G.2.1, 30, .inl fnrc))]) rfl (Nat.le_of_ble_eq_true rfl) rfl rfl rfl dX12_deal_50 (fun H locs hP hD hS => ?_)
        refine lv_aload_n hx hb dX12_deal_53 rfl (lv_at hl 1 rfl) ?_
        refine gf_X12_72 hC rfl hK hP 0 rfl rfl dX12_deal_54 ?_
        refine lv_iload_n hx hb dX12_deal_57 rfl (lv_at hl 2 rfl) ?_
        refine ald hC hK hP 2 rfl (vp_in_nI (by omega) (by omega)) (k := jt) (nI_clamp (by omega)) (v := fnsh jt) rfl dX12_deal_58 ?_
        refine lv_topi (fun x6797 ex6797 => ?_)
        refine lv_iconst (v := 1) hx hb dX12_deal_59 (by decide) ?_
        refine lv_icmp_ne (tgt := 67) hx hb dX12_deal_60 (by decide) (fun _ => ?_) (fun c9 => absurd c9 (fun h9 => absurd (hko9.symm.trans ((ex6797.symm).trans h9)) (by decide)))
        refine lv_iconst (v := 0) hx hb dX12_deal_67 (by decide) ?_
        refine lv_istore (lv' := [(5, .int 0), (4, .int 5), (0, .ref h0), (1, .int (nI jt)), (2, .int x2), (3, .int x3)]) hx hb dX12_deal_68 hl (by decide) rfl (fun ls hl => ?_)
        refine lv_aload_n hx hb dX12_deal_70 rfl (lv_at hl 2 rfl) ?_
        refine gf_X12_72 hC rfl hK hP 0 rfl rfl dX12_deal_71 ?_
        refine lv_iload_n hx hb dX12_deal_74 rfl (lv_at hl 3 rfl) ?_
        refine ald hC hK hP 2 rfl (vp_in_nI (by omega) (by omega)) (k := jt) (nI_clamp (by omega)) (v := fnsh jt) rfl dX12_deal_75 ?_
        refine lv_topi (fun x6798 ex6798 => ?_)
        refine lv_iconst (v := 2) hx hb dX12_deal_76 (by decide) ?_
        refine lv_icmp_ne (tgt := 84) hx hb dX12_deal_77 (by decide) (fun c9 => absurd (ex6798.trans hko9) c9) (fun _ => ?_)
        refine lv_iconst (v := 1) hx hb dX12_deal_80 (by decide) ?_
        refine lv_goto (tgt := 85) hx hb dX12_deal_81 (by decide) ?_
        refine lv_istore (lv' := [(6, .int 1), (5, .int 0), (4, .int 5), (0, .ref h0), (1, .int (nI jt)), (2, .int x2), (3, .int x3)]) hx hb dX12_deal_85 hl (by decide) rfl (fun ls hl => ?_)
        refine lv_aload_n hx hb dX12_deal_87 rfl (lv_at hl 3 rfl) ?_
        refine lv_iload hx hb dX12_deal_88 (lv_at hl 1 rfl) ?_
        refine lv_if_eq (tgt := 105) hx hb dX12_deal_90 (by decide) (fun _ => ?_) (fun c9 => absurd (by decide) c9)
        refine lv_iload hx hb dX12_deal_105 (lv_at hl 0 rfl) ?_
        refine lv_if_eq (tgt := 122) hx hb dX12_deal_107 (by decide) (fun c9 => absurd c9 (by decide)) (fun _ => ?_)
        refine lv_aload_n hx hb dX12_deal_110 rfl (lv_at hl 3 rfl) ?_
        refine lv_aload_n hx hb dX12_deal_111 rfl (lv_at hl 3 rfl) ?_
        refine gf_X12_378 hC rfl hK hP 0 rfl rfl dX12_deal_112 ?_
        refine lv_iconst (v := 0) hx hb dX12_deal_115 (by decide) ?_
        refine pV hC hK hl hP hD (m_saying l G h0 jno 0 nw nk mhasKept nt mtaped nr mrowMany mroundOf mroundFrom mouts nm mfromHour mtoHour ns mfrom mto msort misFault mdeep mcoded mlines nl nc nF np ntr nb mbestCost nso nsi nit nsh nsf nss nrc 0 5 (nI jno) mwhose msize misParted fnw (by omega) (by omega)) si_X12_114 [0, 1] rfl rfl (by decide) rfl rfl rfl rfl rfl (Nat.le_of_ble_eq_true rfl) ⟨Nat.le_of_ble_eq_true rfl, Nat.le_of_ble_eq_true rfl⟩ ⟨by first | exact Nat.le_of_ble_eq_true rfl | exact Nat.zero_le _, by first | exact Nat.le_of_ble_eq_true rfl | exact Nat.zero_le _⟩ dX12_deal_116 (fun r6799 hr6799 => ?_)
        obtain rfl := hr6799
        refine lv_goto (tgt := 139) hx hb dX12_deal_119 (by decide) ?_
        refine pf_X12_375 hC rfl hK hP hD hS 0 (ws' := [(h0, .inr (12, [.ref nw, .ref nk, .int mhasKept, .ref nt, .int mtaped, .ref nr, .int mrowMany, .int mroundOf, .int mroundFrom, .int mouts, .ref nm, .int mfromHour, .int mtoHour, .ref ns, .int mfrom, .int mto, .int msort, .int misFault, .int mdeep, .int mcoded, .int mlines, .ref nl, .ref nc, .ref nF, .ref np, .ref ntr, .ref nb, .int mbestCost, .ref nso, .ref nsi, .ref nit, .ref nsh, .ref nsf, .ref nss, .ref nrc, .int 0, .int 5, .int (nI jno), .int (fnw (1424 + 8 * jno + 0)), .int msize, .int misParted])), (nw, .inl (G.2.1, 1662, .inl fnw)), (nsh, .inl (G.2.1, 4, .inl fnsh)), (nsf, .inl (G.2.1, 4, .inl fnsf)), (nrc, .inl (G.2.1, 30, .inl fnrc))]) rfl (Nat.le_of_ble_eq_true rfl) rfl rfl rfl dX12_deal_139 (fun H locs hP hD hS => ?_)
        refine lv_aload_n hx hb dX12_deal_142 rfl (lv_at hl 3 rfl) ?_
        refine lv_iload hx hb dX12_deal_143 (lv_at hl 1 rfl) ?_
        refine lv_if_eq (tgt := 160) hx hb dX12_deal_145 (by decide) (fun _ => ?_) (fun c9 => absurd (by decide) c9)
        refine lv_iload hx hb dX12_deal_160 (lv_at hl 0 rfl) ?_
        refine lv_if_eq (tgt := 177) hx hb dX12_deal_162 (by decide) (fun c9 => absurd c9 (by decide)) (fun _ => ?_)
        refine lv_aload_n hx hb dX12_deal_165 rfl (lv_at hl 3 rfl) ?_
        refine lv_aload_n hx hb dX12_deal_166 rfl (lv_at hl 3 rfl) ?_
        refine gf_X12_378 hC rfl hK hP 0 rfl rfl dX12_deal_167 ?_
        refine lv_iconst (v := 4) hx hb dX12_deal_170 (by decide) ?_
        refine pV hC hK hl hP hD (m_saying l G h0 jno 4 nw nk mhasKept nt mtaped nr mrowMany mroundOf mroundFrom mouts nm mfromHour mtoHour ns mfrom mto msort misFault mdeep mcoded mlines nl nc nF np ntr nb mbestCost nso nsi nit nsh nsf nss nrc 0 5 (nI jno) (fnw (1424 + 8 * jno + 0)) msize misParted fnw (by omega) (by omega)) si_X12_114 [0, 1] rfl rfl (by decide) rfl rfl rfl rfl rfl (Nat.le_of_ble_eq_true rfl) ⟨Nat.le_of_ble_eq_true rfl, Nat.le_of_ble_eq_true rfl⟩ ⟨by first | exact Nat.le_of_ble_eq_true rfl | exact Nat.zero_le _, by first | exact Nat.le_of_ble_eq_true rfl | exact Nat.zero_le _⟩ dX12_deal_171 (fun r6801 hr6801 => ?_)
        obtain rfl := hr6801
        refine lv_goto (tgt := 194) hx hb dX12_deal_174 (by decide) ?_
        refine pf_X12_369 hC rfl hK hP hD hS 0 (ws' := [(h0, .inr (12, [.ref nw, .ref nk, .int mhasKept, .ref nt, .int mtaped, .ref nr, .int mrowMany, .int mroundOf, .int mroundFrom, .int mouts, .ref nm, .int mfromHour, .int mtoHour, .ref ns, .int mfrom, .int mto, .int msort, .int misFault, .int mdeep, .int mcoded, .int mlines, .ref nl, .ref nc, .ref nF, .ref np, .ref ntr, .ref nb, .int mbestCost, .ref nso, .ref nsi, .ref nit, .ref nsh, .ref nsf, .ref nss, .ref nrc, .int 0, .int 5, .int (nI jno), .int (fnw (1424 + 8 * jno + 0)), .int (fnw (1424 + 8 * jno + 4)), .int misParted])), (nw, .inl (G.2.1, 1662, .inl fnw)), (nsh, .inl (G.2.1, 4, .inl fnsh)), (nsf, .inl (G.2.1, 4, .inl fnsf)), (nrc, .inl (G.2.1, 30, .inl fnrc))]) rfl (Nat.le_of_ble_eq_true rfl) rfl rfl rfl dX12_deal_194 (fun H locs hP hD hS => ?_)
        refine lv_aload_n hx hb dX12_deal_197 rfl (lv_at hl 3 rfl) ?_
        refine lv_iconst (v := 0) hx hb dX12_deal_198 (by decide) ?_
        refine pf_X12_380 hC rfl hK hP hD hS 0 (ws' := [(h0, .inr (12, [.ref nw, .ref nk, .int mhasKept, .ref nt, .int mtaped, .ref nr, .int mrowMany, .int mroundOf, .int mroundFrom, .int mouts, .ref nm, .int mfromHour, .int mtoHour, .ref ns, .int mfrom, .int mto, .int msort, .int misFault, .int mdeep, .int mcoded, .int mlines, .ref nl, .ref nc, .ref nF, .ref np, .ref ntr, .ref nb, .int mbestCost, .ref nso, .ref nsi, .ref nit, .ref nsh, .ref nsf, .ref nss, .ref nrc, .int 0, .int 5, .int (nI jno), .int (fnw (1424 + 8 * jno + 0)), .int (fnw (1424 + 8 * jno + 4)), .int 0])), (nw, .inl (G.2.1, 1662, .inl fnw)), (nsh, .inl (G.2.1, 4, .inl fnsh)), (nsf, .inl (G.2.1, 4, .inl fnsf)), (nrc, .inl (G.2.1, 30, .inl fnrc))]) rfl (Nat.le_of_ble_eq_true rfl) rfl (by decide +kernel) (by decide +kernel) dX12_deal_199 (fun H locs hP hD hS => ?_)
        obtain ⟨jdl, hjdl, rfl⟩ := Wi_nat (N := 3) (by decide) a6653
        rcases (show jdl = 0 ∨ jdl = 1 ∨ jdl = 2 ∨ jdl = 3 by omega) with rfl | rfl | rfl | rfl
        · refine lv_aload_n hx hb dX12_deal_202 rfl (lv_at hl 3 rfl) ?_
          refine lv_iload_n hx hb dX12_deal_203 rfl (lv_at hl 5 rfl) ?_
          refine lv_iload_n hx hb dX12_deal_204 rfl (lv_at hl 6 rfl) ?_
          refine iV (wr := [(nw, .inl (G.2.1, 1662, .inl fnw)), (nsh, .inl (G.2.1, 4, .inl fnsh)), (nsf, .inl (G.2.1, 4, .inl fnsf))]) hC hK hl hP hD hS hA (m_dealt0 l G h0 x3 nw nk mhasKept nt mtaped nr mrowMany mroundOf mroundFrom mouts nm mfromHour mtoHour ns mfrom mto msort misFault mdeep mcoded mlines nl nc nF np ntr nb mbestCost nso nsi nit nsh nsf nss nrc 0 5 (nI jno) (fnw (1424 + 8 * jno + 0)) (fnw (1424 + 8 * jno + 4)) 0 fnrc (by omega) (by omega)) si_X12_372 [0, 4] [1, 2, 3] rfl rfl (by decide) rfl (by decide) (by decide) rfl rfl rfl rfl rfl (Nat.le_of_ble_eq_true rfl) ⟨Nat.le_of_ble_eq_true rfl, Nat.le_of_ble_eq_true rfl⟩ ⟨Nat.le_of_ble_eq_true rfl, Nat.le_of_ble_eq_true rfl⟩ dX12_deal_205 (fun r6803 u6804 H locs hr6803 hP hD hS => ?_)
          obtain ⟨jr16805, ip16806, gtrc6807⟩ := u6804
          try dsimp only at hr6803
          have hP : va_P G.1 vwCl [(nw, .inl (G.2.1, 1662, .inl fnw)), (nsh, .inl (G.2.1, 4, .inl fnsh)), (nsf, .inl (G.2.1, 4, .inl fnsf)), (h0, .inr (12, [.ref nw, .ref nk, .int mhasKept, .ref nt, .int mtaped, .ref nr, .int mrowMany, .int mroundOf, .int mroundFrom, .int mouts, .ref nm, .int mfromHour, .int mtoHour, .ref ns, .int mfrom, .int mto, .int msort, .int misFault, .int mdeep, .int mcoded, .int mlines, .ref nl, .ref nc, .ref nF, .ref np, .ref ntr, .ref nb, .int mbestCost, .ref nso, .ref nsi, .ref nit, .ref nsh, .ref nsf, .ref nss, .ref nrc, .int (nI jr16805), .int 5, .int (nI jno), .int (fnw (1424 + 8 * jno + 0)), .int (fnw (1424 + 8 * jno + 4)), .int ip16806])), (nrc, .inl (G.2.1, 30, .inl gtrc6807))] H := hP
          have hD : va_D A [(nw, .inl (G.2.1, 1662, .inl fnw)), (nsh, .inl (G.2.1, 4, .inl fnsh)), (nsf, .inl (G.2.1, 4, .inl fnsf)), (h0, .inr (12, [.ref nw, .ref nk, .int mhasKept, .ref nt, .int mtaped, .ref nr, .int mrowMany, .int mroundOf, .int mroundFrom, .int mouts, .ref nm, .int mfromHour, .int mtoHour, .ref ns, .int mfrom, .int mto, .int msort, .int misFault, .int mdeep, .int mcoded, .int mlines, .ref nl, .ref nc, .ref nF, .ref np, .ref ntr, .ref nb, .int mbestCost, .ref nso, .ref nsi, .ref nit, .ref nsh, .ref nsf, .ref nss, .ref nrc, .int (nI jr16805), .int 5, .int (nI jno), .int (fnw (1424 + 8 * jno + 0)), .int (fnw (1424 + 8 * jno + 4)), .int ip16806])), (nrc, .inl (G.2.1, 30, .inl gtrc6807))] := hD
          obtain ⟨hr6803, w6808⟩ := hr6803
          refine lv_istore (lv' := [(7, .int r6803), (6, .int 1), (5, .int 0), (4, .int 5), (0, .ref h0), (1, .int (nI jt)), (2, .int 0), (3, .int x3)]) hx hb dX12_deal_208 hl (by decide) rfl (fun ls hl => ?_)
          refine lv_aload_n hx hb dX12_deal_210 rfl (lv_at hl 4 rfl) ?_
          refine gf_X12_380 hC rfl hK hP 3 rfl rfl dX12_deal_211 ?_
          refine lv_if_eq (tgt := 222) hx hb dX12_deal_214 (by decide) (fun c_214_6809 => ?_) (fun c_214_6809 => ?_)
          · refine lv_iload hx hb dX12_deal_222 (lv_at hl 0 rfl) ?_
            exact RI (v := r6803) hC hP hD hS [3, 0, 1, 2, 4] (jr16805, 5, nI jno, fnw (1424 + 8 * jno + 0), fnw (1424 + 8 * jno + 4), ip16806, gtrc6807) rfl rfl (by decide) (⟨trivial, by omega⟩) rfl dX12_deal_224
          · refine lv_bipush (v := (-15)) hx hb dX12_deal_217 (by decide) ?_
            refine lv_goto (tgt := 224) hx hb dX12_deal_219 (by decide) ?_
            exact RI (v := (-15)) hC hP hD hS [3, 0, 1, 2, 4] (jr16805, 5, nI jno, fnw (1424 + 8 * jno + 0), fnw (1424 + 8 * jno + 4), ip16806, gtrc6807) rfl rfl (by decide) (⟨trivial, by omega⟩) rfl dX12_deal_224
        · refine lv_aload_n hx hb dX12_deal_202 rfl (lv_at hl 3 rfl) ?_
          refine lv_iload_n hx hb dX12_deal_203 rfl (lv_at hl 5 rfl) ?_
          refine lv_iload_n hx hb dX12_deal_204 rfl (lv_at hl 6 rfl) ?_
          refine iV (wr := [(nw, .inl (G.2.1, 1662, .inl fnw)), (nsh, .inl (G.2.1, 4, .inl fnsh)), (nsf, .inl (G.2.1, 4, .inl fnsf))]) hC hK hl hP hD hS hA (m_dealt1 l G h0 x3 nw nk mhasKept nt mtaped nr mrowMany mroundOf mroundFrom mouts nm mfromHour mtoHour ns mfrom mto msort misFault mdeep mcoded mlines nl nc nF np ntr nb mbestCost nso nsi nit nsh nsf nss nrc 0 5 (nI jno) (fnw (1424 + 8 * jno + 0)) (fnw (1424 + 8 * jno + 4)) 0 fnrc (by omega) (by omega)) si_X12_372 [0, 4] [1, 2, 3] rfl rfl (by decide) rfl (by decide) (by decide) rfl rfl rfl rfl rfl (Nat.le_of_ble_eq_true rfl) ⟨Nat.le_of_ble_eq_true rfl, Nat.le_of_ble_eq_true rfl⟩ ⟨Nat.le_of_ble_eq_true rfl, Nat.le_of_ble_eq_true rfl⟩ dX12_deal_205 (fun r6810 u6811 H locs hr6810 hP hD hS => ?_)
          obtain ⟨jr16812, ip16813, gtrc6814⟩ := u6811
          try dsimp only at hr6810
          have hP : va_P G.1 vwCl [(nw, .inl (G.2.1, 1662, .inl fnw)), (nsh, .inl (G.2.1, 4, .inl fnsh)), (nsf, .inl (G.2.1, 4, .inl fnsf)), (h0, .inr (12, [.ref nw, .ref nk, .int mhasKept, .ref nt, .int mtaped, .ref nr, .int mrowMany, .int mroundOf, .int mroundFrom, .int mouts, .ref nm, .int mfromHour, .int mtoHour, .ref ns, .int mfrom, .int mto, .int msort, .int misFault, .int mdeep, .int mcoded, .int mlines, .ref nl, .ref nc, .ref nF, .ref np, .ref ntr, .ref nb, .int mbestCost, .ref nso, .ref nsi, .ref nit, .ref nsh, .ref nsf, .ref nss, .ref nrc, .int (nI jr16812), .int 5, .int (nI jno), .int (fnw (1424 + 8 * jno + 0)), .int (fnw (1424 + 8 * jno + 4)), .int ip16813])), (nrc, .inl (G.2.1, 30, .inl gtrc6814))] H := hP
          have hD : va_D A [(nw, .inl (G.2.1, 1662, .inl fnw)), (nsh, .inl (G.2.1, 4, .inl fnsh)), (nsf, .inl (G.2.1, 4, .inl fnsf)), (h0, .inr (12, [.ref nw, .ref nk, .int mhasKept, .ref nt, .int mtaped, .ref nr, .int mrowMany, .int mroundOf, .int mroundFrom, .int mouts, .ref nm, .int mfromHour, .int mtoHour, .ref ns, .int mfrom, .int mto, .int msort, .int misFault, .int mdeep, .int mcoded, .int mlines, .ref nl, .ref nc, .ref nF, .ref np, .ref ntr, .ref nb, .int mbestCost, .ref nso, .ref nsi, .ref nit, .ref nsh, .ref nsf, .ref nss, .ref nrc, .int (nI jr16812), .int 5, .int (nI jno), .int (fnw (1424 + 8 * jno + 0)), .int (fnw (1424 + 8 * jno + 4)), .int ip16813])), (nrc, .inl (G.2.1, 30, .inl gtrc6814))] := hD
          obtain ⟨hr6810, w6815⟩ := hr6810
          refine lv_istore (lv' := [(7, .int r6810), (6, .int 1), (5, .int 0), (4, .int 5), (0, .ref h0), (1, .int (nI jt)), (2, .int 1), (3, .int x3)]) hx hb dX12_deal_208 hl (by decide) rfl (fun ls hl => ?_)
          refine lv_aload_n hx hb dX12_deal_210 rfl (lv_at hl 4 rfl) ?_
          refine gf_X12_380 hC rfl hK hP 3 rfl rfl dX12_deal_211 ?_
          refine lv_if_eq (tgt := 222) hx hb dX12_deal_214 (by decide) (fun c_214_6816 => ?_) (fun c_214_6816 => ?_)
          · refine lv_iload hx hb dX12_deal_222 (lv_at hl 0 rfl) ?_
            exact RI (v := r6810) hC hP hD hS [3, 0, 1, 2, 4] (jr16812, 5, nI jno, fnw (1424 + 8 * jno + 0), fnw (1424 + 8 * jno + 4), ip16813, gtrc6814) rfl rfl (by decide) (⟨trivial, by omega⟩) rfl dX12_deal_224
          · refine lv_bipush (v := (-15)) hx hb dX12_deal_217 (by decide) ?_
            refine lv_goto (tgt := 224) hx hb dX12_deal_219 (by decide) ?_
            exact RI (v := (-15)) hC hP hD hS [3, 0, 1, 2, 4] (jr16812, 5, nI jno, fnw (1424 + 8 * jno + 0), fnw (1424 + 8 * jno + 4), ip16813, gtrc6814) rfl rfl (by decide) (⟨trivial, by omega⟩) rfl dX12_deal_224
        · refine lv_aload_n hx hb dX12_deal_202 rfl (lv_at hl 3 rfl) ?_
          refine lv_iload_n hx hb dX12_deal_203 rfl (lv_at hl 5 rfl) ?_
          refine lv_iload_n hx hb dX12_deal_204 rfl (lv_at hl 6 rfl) ?_
          refine iV (wr := [(nw, .inl (G.2.1, 1662, .inl fnw)), (nsh, .inl (G.2.1, 4, .inl fnsh)), (nsf, .inl (G.2.1, 4, .inl fnsf))]) hC hK hl hP hD hS hA (m_dealt2 l G h0 x3 nw nk mhasKept nt mtaped nr mrowMany mroundOf mroundFrom mouts nm mfromHour mtoHour ns mfrom mto msort misFault mdeep mcoded mlines nl nc nF np ntr nb mbestCost nso nsi nit nsh nsf nss nrc 0 5 (nI jno) (fnw (1424 + 8 * jno + 0)) (fnw (1424 + 8 * jno + 4)) 0 fnrc (by omega) (by omega)) si_X12_372 [0, 4] [1, 2, 3] rfl rfl (by decide) rfl (by decide) (by decide) rfl rfl rfl rfl rfl (Nat.le_of_ble_eq_true rfl) ⟨Nat.le_of_ble_eq_true rfl, Nat.le_of_ble_eq_true rfl⟩ ⟨Nat.le_of_ble_eq_true rfl, Nat.le_of_ble_eq_true rfl⟩ dX12_deal_205 (fun r6817 u6818 H locs hr6817 hP hD hS => ?_)
          obtain ⟨jr16819, ip16820, gtrc6821⟩ := u6818
          try dsimp only at hr6817
          have hP : va_P G.1 vwCl [(nw, .inl (G.2.1, 1662, .inl fnw)), (nsh, .inl (G.2.1, 4, .inl fnsh)), (nsf, .inl (G.2.1, 4, .inl fnsf)), (h0, .inr (12, [.ref nw, .ref nk, .int mhasKept, .ref nt, .int mtaped, .ref nr, .int mrowMany, .int mroundOf, .int mroundFrom, .int mouts, .ref nm, .int mfromHour, .int mtoHour, .ref ns, .int mfrom, .int mto, .int msort, .int misFault, .int mdeep, .int mcoded, .int mlines, .ref nl, .ref nc, .ref nF, .ref np, .ref ntr, .ref nb, .int mbestCost, .ref nso, .ref nsi, .ref nit, .ref nsh, .ref nsf, .ref nss, .ref nrc, .int (nI jr16819), .int 5, .int (nI jno), .int (fnw (1424 + 8 * jno + 0)), .int (fnw (1424 + 8 * jno + 4)), .int ip16820])), (nrc, .inl (G.2.1, 30, .inl gtrc6821))] H := hP
          have hD : va_D A [(nw, .inl (G.2.1, 1662, .inl fnw)), (nsh, .inl (G.2.1, 4, .inl fnsh)), (nsf, .inl (G.2.1, 4, .inl fnsf)), (h0, .inr (12, [.ref nw, .ref nk, .int mhasKept, .ref nt, .int mtaped, .ref nr, .int mrowMany, .int mroundOf, .int mroundFrom, .int mouts, .ref nm, .int mfromHour, .int mtoHour, .ref ns, .int mfrom, .int mto, .int msort, .int misFault, .int mdeep, .int mcoded, .int mlines, .ref nl, .ref nc, .ref nF, .ref np, .ref ntr, .ref nb, .int mbestCost, .ref nso, .ref nsi, .ref nit, .ref nsh, .ref nsf, .ref nss, .ref nrc, .int (nI jr16819), .int 5, .int (nI jno), .int (fnw (1424 + 8 * jno + 0)), .int (fnw (1424 + 8 * jno + 4)), .int ip16820])), (nrc, .inl (G.2.1, 30, .inl gtrc6821))] := hD
          obtain ⟨hr6817, w6822⟩ := hr6817
          refine lv_istore (lv' := [(7, .int r6817), (6, .int 1), (5, .int 0), (4, .int 5), (0, .ref h0), (1, .int (nI jt)), (2, .int 2), (3, .int x3)]) hx hb dX12_deal_208 hl (by decide) rfl (fun ls hl => ?_)
          refine lv_aload_n hx hb dX12_deal_210 rfl (lv_at hl 4 rfl) ?_
          refine gf_X12_380 hC rfl hK hP 3 rfl rfl dX12_deal_211 ?_
          refine lv_if_eq (tgt := 222) hx hb dX12_deal_214 (by decide) (fun c_214_6823 => ?_) (fun c_214_6823 => ?_)
          · refine lv_iload hx hb dX12_deal_222 (lv_at hl 0 rfl) ?_
            exact RI (v := r6817) hC hP hD hS [3, 0, 1, 2, 4] (jr16819, 5, nI jno, fnw (1424 + 8 * jno + 0), fnw (1424 + 8 * jno + 4), ip16820, gtrc6821) rfl rfl (by decide) (⟨trivial, by omega⟩) rfl dX12_deal_224
          · refine lv_bipush (v := (-15)) hx hb dX12_deal_217 (by decide) ?_
            refine lv_goto (tgt := 224) hx hb dX12_deal_219 (by decide) ?_
            exact RI (v := (-15)) hC hP hD hS [3, 0, 1, 2, 4] (jr16819, 5, nI jno, fnw (1424 + 8 * jno + 0), fnw (1424 + 8 * jno + 4), ip16820, gtrc6821) rfl rfl (by decide) (⟨trivial, by omega⟩) rfl dX12_deal_224
        · refine lv_aload_n hx hb dX12_deal_202 rfl (lv_at hl 3 rfl) ?_
          refine lv_iload_n hx hb dX12_deal_203 rfl (lv_at hl 5 rfl) ?_
          refine lv_iload_n hx hb dX12_deal_204 rfl (lv_at hl 6 rfl) ?_
          refine iV (wr := [(nw, .inl (G.2.1, 1662, .inl fnw)), (nsh, .inl (G.2.1, 4, .inl fnsh)), (nsf, .inl (G.2.1, 4, .inl fnsf))]) hC hK hl hP hD hS hA (m_dealt3 l G h0 x3 nw nk mhasKept nt mtaped nr mrowMany mroundOf mroundFrom mouts nm mfromHour mtoHour ns mfrom mto msort misFault mdeep mcoded mlines nl nc nF np ntr nb mbestCost nso nsi nit nsh nsf nss nrc 0 5 (nI jno) (fnw (1424 + 8 * jno + 0)) (fnw (1424 + 8 * jno + 4)) 0 fnrc (by omega) (by omega)) si_X12_372 [0, 4] [1, 2, 3] rfl rfl (by decide) rfl (by decide) (by decide) rfl rfl rfl rfl rfl (Nat.le_of_ble_eq_true rfl) ⟨Nat.le_of_ble_eq_true rfl, Nat.le_of_ble_eq_true rfl⟩ ⟨Nat.le_of_ble_eq_true rfl, Nat.le_of_ble_eq_true rfl⟩ dX12_deal_205 (fun r6824 u6825 H locs hr6824 hP hD hS => ?_)
          obtain ⟨jr16826, ip16827, gtrc6828⟩ := u6825
          try dsimp only at hr6824
          have hP : va_P G.1 vwCl [(nw, .inl (G.2.1, 1662, .inl fnw)), (nsh, .inl (G.2.1, 4, .inl fnsh)), (nsf, .inl (G.2.1, 4, .inl fnsf)), (h0, .inr (12, [.ref nw, .ref nk, .int mhasKept, .ref nt, .int mtaped, .ref nr, .int mrowMany, .int mroundOf, .int mroundFrom, .int mouts, .ref nm, .int mfromHour, .int mtoHour, .ref ns, .int mfrom, .int mto, .int msort, .int misFault, .int mdeep, .int mcoded, .int mlines, .ref nl, .ref nc, .ref nF, .ref np, .ref ntr, .ref nb, .int mbestCost, .ref nso, .ref nsi, .ref nit, .ref nsh, .ref nsf, .ref nss, .ref nrc, .int (nI jr16826), .int 5, .int (nI jno), .int (fnw (1424 + 8 * jno + 0)), .int (fnw (1424 + 8 * jno + 4)), .int ip16827])), (nrc, .inl (G.2.1, 30, .inl gtrc6828))] H := hP
          have hD : va_D A [(nw, .inl (G.2.1, 1662, .inl fnw)), (nsh, .inl (G.2.1, 4, .inl fnsh)), (nsf, .inl (G.2.1, 4, .inl fnsf)), (h0, .inr (12, [.ref nw, .ref nk, .int mhasKept, .ref nt, .int mtaped, .ref nr, .int mrowMany, .int mroundOf, .int mroundFrom, .int mouts, .ref nm, .int mfromHour, .int mtoHour, .ref ns, .int mfrom, .int mto, .int msort, .int misFault, .int mdeep, .int mcoded, .int mlines, .ref nl, .ref nc, .ref nF, .ref np, .ref ntr, .ref nb, .int mbestCost, .ref nso, .ref nsi, .ref nit, .ref nsh, .ref nsf, .ref nss, .ref nrc, .int (nI jr16826), .int 5, .int (nI jno), .int (fnw (1424 + 8 * jno + 0)), .int (fnw (1424 + 8 * jno + 4)), .int ip16827])), (nrc, .inl (G.2.1, 30, .inl gtrc6828))] := hD
          obtain ⟨hr6824, w6829⟩ := hr6824
          refine lv_istore (lv' := [(7, .int r6824), (6, .int 1), (5, .int 0), (4, .int 5), (0, .ref h0), (1, .int (nI jt)), (2, .int 3), (3, .int x3)]) hx hb dX12_deal_208 hl (by decide) rfl (fun ls hl => ?_)
          refine lv_aload_n hx hb dX12_deal_210 rfl (lv_at hl 4 rfl) ?_
          refine gf_X12_380 hC rfl hK hP 3 rfl rfl dX12_deal_211 ?_
          refine lv_if_eq (tgt := 222) hx hb dX12_deal_214 (by decide) (fun c_214_6830 => ?_) (fun c_214_6830 => ?_)
          · refine lv_iload hx hb dX12_deal_222 (lv_at hl 0 rfl) ?_
            exact RI (v := r6824) hC hP hD hS [3, 0, 1, 2, 4] (jr16826, 5, nI jno, fnw (1424 + 8 * jno + 0), fnw (1424 + 8 * jno + 4), ip16827, gtrc6828) rfl rfl (by decide) (⟨trivial, by omega⟩) rfl dX12_deal_224
          · refine lv_bipush (v := (-15)) hx hb dX12_deal_217 (by decide) ?_
            refine lv_goto (tgt := 224) hx hb dX12_deal_219 (by decide) ?_
            exact RI (v := (-15)) hC hP hD hS [3, 0, 1, 2, 4] (jr16826, 5, nI jno, fnw (1424 + 8 * jno + 0), fnw (1424 + 8 * jno + 4), ip16827, gtrc6828) rfl rfl (by decide) (⟨trivial, by omega⟩) rfl dX12_deal_224
      · refine lv_istore (lv' := [(4, .int 6), (0, .ref h0), (1, .int (nI jt)), (2, .int x2), (3, .int x3)]) hx hb dX12_deal_28 hl (by decide) rfl (fun ls hl => ?_)
        refine lv_iload hx hb dX12_deal_30 (lv_at hl 0 rfl) ?_
        refine lv_if_ge (tgt := 37) hx hb dX12_deal_32 (by decide) (fun _ => ?_) (fun c9 => absurd (by decide) c9)
        refine lv_aload_n hx hb dX12_deal_37 rfl (lv_at hl 1 rfl) ?_
        refine lv_iload hx hb dX12_deal_38 (lv_at hl 0 rfl) ?_
        refine pf_X12_354 hC rfl hK hP hD hS 0 (ws' := [(h0, .inr (12, [.ref nw, .ref nk, .int mhasKept, .ref nt, .int mtaped, .ref nr, .int mrowMany, .int mroundOf, .int mroundFrom, .int mouts, .ref nm, .int mfromHour, .int mtoHour, .ref ns, .int mfrom, .int mto, .int msort, .int misFault, .int mdeep, .int mcoded, .int mlines, .ref nl, .ref nc, .ref nF, .ref np, .ref ntr, .ref nb, .int mbestCost, .ref nso, .ref nsi, .ref nit, .ref nsh, .ref nsf, .ref nss, .ref nrc, .int 0, .int 6, .int mnumber, .int mwhose, .int msize, .int misParted])), (nw, .inl (G.2.1, 1662, .inl fnw)), (nsh, .inl (G.2.1, 4, .inl fnsh)), (nsf, .inl (G.2.1, 4, .inl fnsf)), (nrc, .inl (G.2.1, 30, .inl fnrc))]) rfl (Nat.le_of_ble_eq_true rfl) rfl rfl rfl dX12_deal_40 (fun H locs hP hD hS => ?_)
        refine lv_aload_n hx hb dX12_deal_43 rfl (lv_at hl 1 rfl) ?_
        refine lv_aload_n hx hb dX12_deal_44 rfl (lv_at hl 1 rfl) ?_
        refine gf_X12_75 hC rfl hK hP 0 rfl rfl dX12_deal_45 ?_
        refine lv_iload_n hx hb dX12_deal_48 rfl (lv_at hl 2 rfl) ?_
        refine ald hC hK hP 3 rfl (vp_in_nI (by omega) (by omega)) (k := jt) (nI_clamp (by omega)) (v := fnsf jt) rfl dX12_deal_49 ?_
        refine lv_topi (fun x6831 ex6831 => ?_)
        obtain ⟨hko9, jno, hjno, ejno⟩ := a6655
        refine eqi (x1 := nI jno) (ex6831.trans ejno) ?_
        refine pf_X12_378 hC rfl hK hP hD hS 0 (ws' := [(h0, .inr (12, [.ref nw, .ref nk, .int mhasKept, .ref nt, .int mtaped, .ref nr, .int mrowMany, .int mroundOf, .int mroundFrom, .int mouts, .ref nm, .int mfromHour, .int mtoHour, .ref ns, .int mfrom, .int mto, .int msort, .int misFault, .int mdeep, .int mcoded, .int mlines, .ref nl, .ref nc, .ref nF, .ref np, .ref ntr, .ref nb, .int mbestCost, .ref nso, .ref nsi, .ref nit, .ref nsh, .ref nsf, .ref nss, .ref nrc, .int 0, .int 6, .int (nI jno), .int mwhose, .int msize, .int misParted])), (nw, .inl (G.2.1, 1662, .inl fnw)), (nsh, .inl (G.2.1, 4, .inl fnsh)), (nsf, .inl (G.2.1, 4, .inl fnsf)), (nrc, .inl (G.2.1, 30, .inl fnrc))]) rfl (Nat.le_of_ble_eq_true rfl) rfl rfl rfl dX12_deal_50 (fun H locs hP hD hS => ?_)
        refine lv_aload_n hx hb dX12_deal_53 rfl (lv_at hl 1 rfl) ?_
        refine gf_X12_72 hC rfl hK hP 0 rfl rfl dX12_deal_54 ?_
        refine lv_iload_n hx hb dX12_deal_57 rfl (lv_at hl 2 rfl) ?_
        refine ald hC hK hP 2 rfl (vp_in_nI (by omega) (by omega)) (k := jt) (nI_clamp (by omega)) (v := fnsh jt) rfl dX12_deal_58 ?_
        refine lv_topi (fun x6832 ex6832 => ?_)
        refine lv_iconst (v := 1) hx hb dX12_deal_59 (by decide) ?_
        refine lv_icmp_ne (tgt := 67) hx hb dX12_deal_60 (by decide) (fun _ => ?_) (fun c9 => absurd c9 (fun h9 => absurd (hko9.symm.trans ((ex6832.symm).trans h9)) (by decide)))
        refine lv_iconst (v := 0) hx hb dX12_deal_67 (by decide) ?_
        refine lv_istore (lv' := [(5, .int 0), (4, .int 6), (0, .ref h0), (1, .int (nI jt)), (2, .int x2), (3, .int x3)]) hx hb dX12_deal_68 hl (by decide) rfl (fun ls hl => ?_)
        refine lv_aload_n hx hb dX12_deal_70 rfl (lv_at hl 2 rfl) ?_
        refine gf_X12_72 hC rfl hK hP 0 rfl rfl dX12_deal_71 ?_
        refine lv_iload_n hx hb dX12_deal_74 rfl (lv_at hl 3 rfl) ?_
        refine ald hC hK hP 2 rfl (vp_in_nI (by omega) (by omega)) (k := jt) (nI_clamp (by omega)) (v := fnsh jt) rfl dX12_deal_75 ?_
        refine lv_topi (fun x6833 ex6833 => ?_)
        refine lv_iconst (v := 2) hx hb dX12_deal_76 (by decide) ?_
        refine lv_icmp_ne (tgt := 84) hx hb dX12_deal_77 (by decide) (fun _ => ?_) (fun c9 => absurd c9 (fun h9 => absurd (hko9.symm.trans ((ex6833.symm).trans h9)) (by decide)))
        refine lv_iconst (v := 0) hx hb dX12_deal_84 (by decide) ?_
        refine lv_istore (lv' := [(6, .int 0), (5, .int 0), (4, .int 6), (0, .ref h0), (1, .int (nI jt)), (2, .int x2), (3, .int x3)]) hx hb dX12_deal_85 hl (by decide) rfl (fun ls hl => ?_)
        refine lv_aload_n hx hb dX12_deal_87 rfl (lv_at hl 3 rfl) ?_
        refine lv_iload hx hb dX12_deal_88 (lv_at hl 1 rfl) ?_
        refine lv_if_eq (tgt := 105) hx hb dX12_deal_90 (by decide) (fun _ => ?_) (fun c9 => absurd (by decide) c9)
        refine lv_iload hx hb dX12_deal_105 (lv_at hl 0 rfl) ?_
        refine lv_if_eq (tgt := 122) hx hb dX12_deal_107 (by decide) (fun _ => ?_) (fun c9 => absurd (by decide) c9)
        refine lv_aload_n hx hb dX12_deal_122 rfl (lv_at hl 3 rfl) ?_
        refine gf_X12_9 hC rfl hK hP 0 rfl rfl dX12_deal_123 ?_
        refine lv_sipush (v := 1552) hx hb dX12_deal_126 (by decide) ?_
        refine lv_iconst (v := 4) hx hb dX12_deal_129 (by decide) ?_
        refine lv_aload_n hx hb dX12_deal_130 rfl (lv_at hl 3 rfl) ?_
        refine gf_X12_378 hC rfl hK hP 0 rfl rfl dX12_deal_131 ?_
        refine lv_imul hx hb dX12_deal_134 ?_
        refine eqi (x1 := nI (4 * jno)) (nI_mul 4 jno) ?_
        refine lv_iadd hx hb dX12_deal_135 ?_
        refine eqi (x1 := nI (1552 + 4 * jno)) (nI_add 1552 (4 * jno)) ?_
        refine lv_iconst (v := 0) hx hb dX12_deal_136 (by decide) ?_
        refine lv_iadd hx hb dX12_deal_137 ?_
        refine eqi (x1 := nI (1552 + 4 * jno + 0)) (nI_add (1552 + 4 * jno) 0) ?_
        refine ald hC hK hP 1 rfl (vp_in_nI (by omega) (by omega)) (k := (1552 + 4 * jno + 0)) (nI_clamp (by omega)) (v := fnw (1552 + 4 * jno + 0)) rfl dX12_deal_138 ?_
        refine lv_topi (fun x6834 ex6834 => ?_)
        refine pf_X12_375 hC rfl hK hP hD hS 0 (ws' := [(h0, .inr (12, [.ref nw, .ref nk, .int mhasKept, .ref nt, .int mtaped, .ref nr, .int mrowMany, .int mroundOf, .int mroundFrom, .int mouts, .ref nm, .int mfromHour, .int mtoHour, .ref ns, .int mfrom, .int mto, .int msort, .int misFault, .int mdeep, .int mcoded, .int mlines, .ref nl, .ref nc, .ref nF, .ref np, .ref ntr, .ref nb, .int mbestCost, .ref nso, .ref nsi, .ref nit, .ref nsh, .ref nsf, .ref nss, .ref nrc, .int 0, .int 6, .int (nI jno), .int x6834, .int msize, .int misParted])), (nw, .inl (G.2.1, 1662, .inl fnw)), (nsh, .inl (G.2.1, 4, .inl fnsh)), (nsf, .inl (G.2.1, 4, .inl fnsf)), (nrc, .inl (G.2.1, 30, .inl fnrc))]) rfl (Nat.le_of_ble_eq_true rfl) rfl rfl rfl dX12_deal_139 (fun H locs hP hD hS => ?_)
        refine lv_aload_n hx hb dX12_deal_142 rfl (lv_at hl 3 rfl) ?_
        refine lv_iload hx hb dX12_deal_143 (lv_at hl 1 rfl) ?_
        refine lv_if_eq (tgt := 160) hx hb dX12_deal_145 (by decide) (fun _ => ?_) (fun c9 => absurd (by decide) c9)
        refine lv_iload hx hb dX12_deal_160 (lv_at hl 0 rfl) ?_
        refine lv_if_eq (tgt := 177) hx hb dX12_deal_162 (by decide) (fun _ => ?_) (fun c9 => absurd (by decide) c9)
        refine lv_aload_n hx hb dX12_deal_177 rfl (lv_at hl 3 rfl) ?_
        refine gf_X12_9 hC rfl hK hP 0 rfl rfl dX12_deal_178 ?_
        refine lv_sipush (v := 1552) hx hb dX12_deal_181 (by decide) ?_
        refine lv_iconst (v := 4) hx hb dX12_deal_184 (by decide) ?_
        refine lv_aload_n hx hb dX12_deal_185 rfl (lv_at hl 3 rfl) ?_
        refine gf_X12_378 hC rfl hK hP 0 rfl rfl dX12_deal_186 ?_
        refine lv_imul hx hb dX12_deal_189 ?_
        refine eqi (x1 := nI (4 * jno)) (nI_mul 4 jno) ?_
        refine lv_iadd hx hb dX12_deal_190 ?_
        refine eqi (x1 := nI (1552 + 4 * jno)) (nI_add 1552 (4 * jno)) ?_
        refine lv_iconst (v := 2) hx hb dX12_deal_191 (by decide) ?_
        refine lv_iadd hx hb dX12_deal_192 ?_
        refine eqi (x1 := nI (1552 + 4 * jno + 2)) (nI_add (1552 + 4 * jno) 2) ?_
        refine ald hC hK hP 1 rfl (vp_in_nI (by omega) (by omega)) (k := (1552 + 4 * jno + 2)) (nI_clamp (by omega)) (v := fnw (1552 + 4 * jno + 2)) rfl dX12_deal_193 ?_
        refine lv_topi (fun x6835 ex6835 => ?_)
        refine pf_X12_369 hC rfl hK hP hD hS 0 (ws' := [(h0, .inr (12, [.ref nw, .ref nk, .int mhasKept, .ref nt, .int mtaped, .ref nr, .int mrowMany, .int mroundOf, .int mroundFrom, .int mouts, .ref nm, .int mfromHour, .int mtoHour, .ref ns, .int mfrom, .int mto, .int msort, .int misFault, .int mdeep, .int mcoded, .int mlines, .ref nl, .ref nc, .ref nF, .ref np, .ref ntr, .ref nb, .int mbestCost, .ref nso, .ref nsi, .ref nit, .ref nsh, .ref nsf, .ref nss, .ref nrc, .int 0, .int 6, .int (nI jno), .int x6834, .int x6835, .int misParted])), (nw, .inl (G.2.1, 1662, .inl fnw)), (nsh, .inl (G.2.1, 4, .inl fnsh)), (nsf, .inl (G.2.1, 4, .inl fnsf)), (nrc, .inl (G.2.1, 30, .inl fnrc))]) rfl (Nat.le_of_ble_eq_true rfl) rfl rfl rfl dX12_deal_194 (fun H locs hP hD hS => ?_)
        refine lv_aload_n hx hb dX12_deal_197 rfl (lv_at hl 3 rfl) ?_
        refine lv_iconst (v := 0) hx hb dX12_deal_198 (by decide) ?_
        refine pf_X12_380 hC rfl hK hP hD hS 0 (ws' := [(h0, .inr (12, [.ref nw, .ref nk, .int mhasKept, .ref nt, .int mtaped, .ref nr, .int mrowMany, .int mroundOf, .int mroundFrom, .int mouts, .ref nm, .int mfromHour, .int mtoHour, .ref ns, .int mfrom, .int mto, .int msort, .int misFault, .int mdeep, .int mcoded, .int mlines, .ref nl, .ref nc, .ref nF, .ref np, .ref ntr, .ref nb, .int mbestCost, .ref nso, .ref nsi, .ref nit, .ref nsh, .ref nsf, .ref nss, .ref nrc, .int 0, .int 6, .int (nI jno), .int x6834, .int x6835, .int 0])), (nw, .inl (G.2.1, 1662, .inl fnw)), (nsh, .inl (G.2.1, 4, .inl fnsh)), (nsf, .inl (G.2.1, 4, .inl fnsf)), (nrc, .inl (G.2.1, 30, .inl fnrc))]) rfl (Nat.le_of_ble_eq_true rfl) rfl (by decide +kernel) (by decide +kernel) dX12_deal_199 (fun H locs hP hD hS => ?_)
        obtain ⟨jdl, hjdl, rfl⟩ := Wi_nat (N := 3) (by decide) a6653
        rcases (show jdl = 0 ∨ jdl = 1 ∨ jdl = 2 ∨ jdl = 3 by omega) with rfl | rfl | rfl | rfl
        · refine lv_aload_n hx hb dX12_deal_202 rfl (lv_at hl 3 rfl) ?_
          refine lv_iload_n hx hb dX12_deal_203 rfl (lv_at hl 5 rfl) ?_
          refine lv_iload_n hx hb dX12_deal_204 rfl (lv_at hl 6 rfl) ?_
          refine iV (wr := [(nw, .inl (G.2.1, 1662, .inl fnw)), (nsh, .inl (G.2.1, 4, .inl fnsh)), (nsf, .inl (G.2.1, 4, .inl fnsf))]) hC hK hl hP hD hS hA (m_dealt0 l G h0 x3 nw nk mhasKept nt mtaped nr mrowMany mroundOf mroundFrom mouts nm mfromHour mtoHour ns mfrom mto msort misFault mdeep mcoded mlines nl nc nF np ntr nb mbestCost nso nsi nit nsh nsf nss nrc 0 6 (nI jno) x6834 x6835 0 fnrc (by omega) (by omega)) si_X12_372 [0, 4] [1, 2, 3] rfl rfl (by decide) rfl (by decide) (by decide) rfl rfl rfl rfl rfl (Nat.le_of_ble_eq_true rfl) ⟨Nat.le_of_ble_eq_true rfl, Nat.le_of_ble_eq_true rfl⟩ ⟨Nat.le_of_ble_eq_true rfl, Nat.le_of_ble_eq_true rfl⟩ dX12_deal_205 (fun r6836 u6837 H locs hr6836 hP hD hS => ?_)
          obtain ⟨jr16838, ip16839, gtrc6840⟩ := u6837
          try dsimp only at hr6836
          have hP : va_P G.1 vwCl [(nw, .inl (G.2.1, 1662, .inl fnw)), (nsh, .inl (G.2.1, 4, .inl fnsh)), (nsf, .inl (G.2.1, 4, .inl fnsf)), (h0, .inr (12, [.ref nw, .ref nk, .int mhasKept, .ref nt, .int mtaped, .ref nr, .int mrowMany, .int mroundOf, .int mroundFrom, .int mouts, .ref nm, .int mfromHour, .int mtoHour, .ref ns, .int mfrom, .int mto, .int msort, .int misFault, .int mdeep, .int mcoded, .int mlines, .ref nl, .ref nc, .ref nF, .ref np, .ref ntr, .ref nb, .int mbestCost, .ref nso, .ref nsi, .ref nit, .ref nsh, .ref nsf, .ref nss, .ref nrc, .int (nI jr16838), .int 6, .int (nI jno), .int x6834, .int x6835, .int ip16839])), (nrc, .inl (G.2.1, 30, .inl gtrc6840))] H := hP
          have hD : va_D A [(nw, .inl (G.2.1, 1662, .inl fnw)), (nsh, .inl (G.2.1, 4, .inl fnsh)), (nsf, .inl (G.2.1, 4, .inl fnsf)), (h0, .inr (12, [.ref nw, .ref nk, .int mhasKept, .ref nt, .int mtaped, .ref nr, .int mrowMany, .int mroundOf, .int mroundFrom, .int mouts, .ref nm, .int mfromHour, .int mtoHour, .ref ns, .int mfrom, .int mto, .int msort, .int misFault, .int mdeep, .int mcoded, .int mlines, .ref nl, .ref nc, .ref nF, .ref np, .ref ntr, .ref nb, .int mbestCost, .ref nso, .ref nsi, .ref nit, .ref nsh, .ref nsf, .ref nss, .ref nrc, .int (nI jr16838), .int 6, .int (nI jno), .int x6834, .int x6835, .int ip16839])), (nrc, .inl (G.2.1, 30, .inl gtrc6840))] := hD
          obtain ⟨hr6836, w6841⟩ := hr6836
          refine lv_istore (lv' := [(7, .int r6836), (6, .int 0), (5, .int 0), (4, .int 6), (0, .ref h0), (1, .int (nI jt)), (2, .int 0), (3, .int x3)]) hx hb dX12_deal_208 hl (by decide) rfl (fun ls hl => ?_)
          refine lv_aload_n hx hb dX12_deal_210 rfl (lv_at hl 4 rfl) ?_
          refine gf_X12_380 hC rfl hK hP 3 rfl rfl dX12_deal_211 ?_
          refine lv_if_eq (tgt := 222) hx hb dX12_deal_214 (by decide) (fun c_214_6842 => ?_) (fun c_214_6842 => ?_)
          · refine lv_iload hx hb dX12_deal_222 (lv_at hl 0 rfl) ?_
            exact RI (v := r6836) hC hP hD hS [3, 0, 1, 2, 4] (jr16838, 6, nI jno, x6834, x6835, ip16839, gtrc6840) rfl rfl (by decide) (⟨trivial, by omega⟩) rfl dX12_deal_224
          · refine lv_bipush (v := (-15)) hx hb dX12_deal_217 (by decide) ?_
            refine lv_goto (tgt := 224) hx hb dX12_deal_219 (by decide) ?_
            exact RI (v := (-15)) hC hP hD hS [3, 0, 1, 2, 4] (jr16838, 6, nI jno, x6834, x6835, ip16839, gtrc6840) rfl rfl (by decide) (⟨trivial, by omega⟩) rfl dX12_deal_224
        · refine lv_aload_n hx hb dX12_deal_202 rfl (lv_at hl 3 rfl) ?_
          refine lv_iload_n hx hb dX12_deal_203 rfl (lv_at hl 5 rfl) ?_
          refine lv_iload_n hx hb dX12_deal_204 rfl (lv_at hl 6 rfl) ?_
          refine iV (wr := [(nw, .inl (G.2.1, 1662, .inl fnw)), (nsh, .inl (G.2.1, 4, .inl fnsh)), (nsf, .inl (G.2.1, 4, .inl fnsf))]) hC hK hl hP hD hS hA (m_dealt1 l G h0 x3 nw nk mhasKept nt mtaped nr mrowMany mroundOf mroundFrom mouts nm mfromHour mtoHour ns mfrom mto msort misFault mdeep mcoded mlines nl nc nF np ntr nb mbestCost nso nsi nit nsh nsf nss nrc 0 6 (nI jno) x6834 x6835 0 fnrc (by omega) (by omega)) si_X12_372 [0, 4] [1, 2, 3] rfl rfl (by decide) rfl (by decide) (by decide) rfl rfl rfl rfl rfl (Nat.le_of_ble_eq_true rfl) ⟨Nat.le_of_ble_eq_true rfl, Nat.le_of_ble_eq_true rfl⟩ ⟨Nat.le_of_ble_eq_true rfl, Nat.le_of_ble_eq_true rfl⟩ dX12_deal_205 (fun r6843 u6844 H locs hr6843 hP hD hS => ?_)
          obtain ⟨jr16845, ip16846, gtrc6847⟩ := u6844
          try dsimp only at hr6843
          have hP : va_P G.1 vwCl [(nw, .inl (G.2.1, 1662, .inl fnw)), (nsh, .inl (G.2.1, 4, .inl fnsh)), (nsf, .inl (G.2.1, 4, .inl fnsf)), (h0, .inr (12, [.ref nw, .ref nk, .int mhasKept, .ref nt, .int mtaped, .ref nr, .int mrowMany, .int mroundOf, .int mroundFrom, .int mouts, .ref nm, .int mfromHour, .int mtoHour, .ref ns, .int mfrom, .int mto, .int msort, .int misFault, .int mdeep, .int mcoded, .int mlines, .ref nl, .ref nc, .ref nF, .ref np, .ref ntr, .ref nb, .int mbestCost, .ref nso, .ref nsi, .ref nit, .ref nsh, .ref nsf, .ref nss, .ref nrc, .int (nI jr16845), .int 6, .int (nI jno), .int x6834, .int x6835, .int ip16846])), (nrc, .inl (G.2.1, 30, .inl gtrc6847))] H := hP
          have hD : va_D A [(nw, .inl (G.2.1, 1662, .inl fnw)), (nsh, .inl (G.2.1, 4, .inl fnsh)), (nsf, .inl (G.2.1, 4, .inl fnsf)), (h0, .inr (12, [.ref nw, .ref nk, .int mhasKept, .ref nt, .int mtaped, .ref nr, .int mrowMany, .int mroundOf, .int mroundFrom, .int mouts, .ref nm, .int mfromHour, .int mtoHour, .ref ns, .int mfrom, .int mto, .int msort, .int misFault, .int mdeep, .int mcoded, .int mlines, .ref nl, .ref nc, .ref nF, .ref np, .ref ntr, .ref nb, .int mbestCost, .ref nso, .ref nsi, .ref nit, .ref nsh, .ref nsf, .ref nss, .ref nrc, .int (nI jr16845), .int 6, .int (nI jno), .int x6834, .int x6835, .int ip16846])), (nrc, .inl (G.2.1, 30, .inl gtrc6847))] := hD
          obtain ⟨hr6843, w6848⟩ := hr6843
          refine lv_istore (lv' := [(7, .int r6843), (6, .int 0), (5, .int 0), (4, .int 6), (0, .ref h0), (1, .int (nI jt)), (2, .int 1), (3, .int x3)]) hx hb dX12_deal_208 hl (by decide) rfl (fun ls hl => ?_)
          refine lv_aload_n hx hb dX12_deal_210 rfl (lv_at hl 4 rfl) ?_
          refine gf_X12_380 hC rfl hK hP 3 rfl rfl dX12_deal_211 ?_
          refine lv_if_eq (tgt := 222) hx hb dX12_deal_214 (by decide) (fun c_214_6849 => ?_) (fun c_214_6849 => ?_)
          · refine lv_iload hx hb dX12_deal_222 (lv_at hl 0 rfl) ?_
            exact RI (v := r6843) hC hP hD hS [3, 0, 1, 2, 4] (jr16845, 6, nI jno, x6834, x6835, ip16846, gtrc6847) rfl rfl (by decide) (⟨trivial, by omega⟩) rfl dX12_deal_224
          · refine lv_bipush (v := (-15)) hx hb dX12_deal_217 (by decide) ?_
            refine lv_goto (tgt := 224) hx hb dX12_deal_219 (by decide) ?_
            exact RI (v := (-15)) hC hP hD hS [3, 0, 1, 2, 4] (jr16845, 6, nI jno, x6834, x6835, ip16846, gtrc6847) rfl rfl (by decide) (⟨trivial, by omega⟩) rfl dX12_deal_224
        · refine lv_aload_n hx hb dX12_deal_202 rfl (lv_at hl 3 rfl) ?_
          refine lv_iload_n hx hb dX12_deal_203 rfl (lv_at hl 5 rfl) ?_
          refine lv_iload_n hx hb dX12_deal_204 rfl (lv_at hl 6 rfl) ?_
          refine iV (wr := [(nw, .inl (G.2.1, 1662, .inl fnw)), (nsh, .inl (G.2.1, 4, .inl fnsh)), (nsf, .inl (G.2.1, 4, .inl fnsf))]) hC hK hl hP hD hS hA (m_dealt2 l G h0 x3 nw nk mhasKept nt mtaped nr mrowMany mroundOf mroundFrom mouts nm mfromHour mtoHour ns mfrom mto msort misFault mdeep mcoded mlines nl nc nF np ntr nb mbestCost nso nsi nit nsh nsf nss nrc 0 6 (nI jno) x6834 x6835 0 fnrc (by omega) (by omega)) si_X12_372 [0, 4] [1, 2, 3] rfl rfl (by decide) rfl (by decide) (by decide) rfl rfl rfl rfl rfl (Nat.le_of_ble_eq_true rfl) ⟨Nat.le_of_ble_eq_true rfl, Nat.le_of_ble_eq_true rfl⟩ ⟨Nat.le_of_ble_eq_true rfl, Nat.le_of_ble_eq_true rfl⟩ dX12_deal_205 (fun r6850 u6851 H locs hr6850 hP hD hS => ?_)
          obtain ⟨jr16852, ip16853, gtrc6854⟩ := u6851
          try dsimp only at hr6850
          have hP : va_P G.1 vwCl [(nw, .inl (G.2.1, 1662, .inl fnw)), (nsh, .inl (G.2.1, 4, .inl fnsh)), (nsf, .inl (G.2.1, 4, .inl fnsf)), (h0, .inr (12, [.ref nw, .ref nk, .int mhasKept, .ref nt, .int mtaped, .ref nr, .int mrowMany, .int mroundOf, .int mroundFrom, .int mouts, .ref nm, .int mfromHour, .int mtoHour, .ref ns, .int mfrom, .int mto, .int msort, .int misFault, .int mdeep, .int mcoded, .int mlines, .ref nl, .ref nc, .ref nF, .ref np, .ref ntr, .ref nb, .int mbestCost, .ref nso, .ref nsi, .ref nit, .ref nsh, .ref nsf, .ref nss, .ref nrc, .int (nI jr16852), .int 6, .int (nI jno), .int x6834, .int x6835, .int ip16853])), (nrc, .inl (G.2.1, 30, .inl gtrc6854))] H := hP
          have hD : va_D A [(nw, .inl (G.2.1, 1662, .inl fnw)), (nsh, .inl (G.2.1, 4, .inl fnsh)), (nsf, .inl (G.2.1, 4, .inl fnsf)), (h0, .inr (12, [.ref nw, .ref nk, .int mhasKept, .ref nt, .int mtaped, .ref nr, .int mrowMany, .int mroundOf, .int mroundFrom, .int mouts, .ref nm, .int mfromHour, .int mtoHour, .ref ns, .int mfrom, .int mto, .int msort, .int misFault, .int mdeep, .int mcoded, .int mlines, .ref nl, .ref nc, .ref nF, .ref np, .ref ntr, .ref nb, .int mbestCost, .ref nso, .ref nsi, .ref nit, .ref nsh, .ref nsf, .ref nss, .ref nrc, .int (nI jr16852), .int 6, .int (nI jno), .int x6834, .int x6835, .int ip16853])), (nrc, .inl (G.2.1, 30, .inl gtrc6854))] := hD
          obtain ⟨hr6850, w6855⟩ := hr6850
          refine lv_istore (lv' := [(7, .int r6850), (6, .int 0), (5, .int 0), (4, .int 6), (0, .ref h0), (1, .int (nI jt)), (2, .int 2), (3, .int x3)]) hx hb dX12_deal_208 hl (by decide) rfl (fun ls hl => ?_)
          refine lv_aload_n hx hb dX12_deal_210 rfl (lv_at hl 4 rfl) ?_
          refine gf_X12_380 hC rfl hK hP 3 rfl rfl dX12_deal_211 ?_
          refine lv_if_eq (tgt := 222) hx hb dX12_deal_214 (by decide) (fun c_214_6856 => ?_) (fun c_214_6856 => ?_)
          · refine lv_iload hx hb dX12_deal_222 (lv_at hl 0 rfl) ?_
            exact RI (v := r6850) hC hP hD hS [3, 0, 1, 2, 4] (jr16852, 6, nI jno, x6834, x6835, ip16853, gtrc6854) rfl rfl (by decide) (⟨trivial, by omega⟩) rfl dX12_deal_224
          · refine lv_bipush (v := (-15)) hx hb dX12_deal_217 (by decide) ?_
            refine lv_goto (tgt := 224) hx hb dX12_deal_219 (by decide) ?_
            exact RI (v := (-15)) hC hP hD hS [3, 0, 1, 2, 4] (jr16852, 6, nI jno, x6834, x6835, ip16853, gtrc6854) rfl rfl (by decide) (⟨trivial, by omega⟩) rfl dX12_deal_224
        · refine lv_aload_n hx hb dX12_deal_202 rfl (lv_at hl 3 rfl) ?_
          refine lv_iload_n hx hb dX12_deal_203 rfl (lv_at hl 5 rfl) ?_
          refine lv_iload_n hx hb dX12_deal_204 rfl (lv_at hl 6 rfl) ?_
          refine iV (wr := [(nw, .inl (G.2.1, 1662, .inl fnw)), (nsh, .inl (G.2.1, 4, .inl fnsh)), (nsf, .inl (G.2.1, 4, .inl fnsf))]) hC hK hl hP hD hS hA (m_dealt3 l G h0 x3 nw nk mhasKept nt mtaped nr mrowMany mroundOf mroundFrom mouts nm mfromHour mtoHour ns mfrom mto msort misFault mdeep mcoded mlines nl nc nF np ntr nb mbestCost nso nsi nit nsh nsf nss nrc 0 6 (nI jno) x6834 x6835 0 fnrc (by omega) (by omega)) si_X12_372 [0, 4] [1, 2, 3] rfl rfl (by decide) rfl (by decide) (by decide) rfl rfl rfl rfl rfl (Nat.le_of_ble_eq_true rfl) ⟨Nat.le_of_ble_eq_true rfl, Nat.le_of_ble_eq_true rfl⟩ ⟨Nat.le_of_ble_eq_true rfl, Nat.le_of_ble_eq_true rfl⟩ dX12_deal_205 (fun r6857 u6858 H locs hr6857 hP hD hS => ?_)
          obtain ⟨jr16859, ip16860, gtrc6861⟩ := u6858
          try dsimp only at hr6857
          have hP : va_P G.1 vwCl [(nw, .inl (G.2.1, 1662, .inl fnw)), (nsh, .inl (G.2.1, 4, .inl fnsh)), (nsf, .inl (G.2.1, 4, .inl fnsf)), (h0, .inr (12, [.ref nw, .ref nk, .int mhasKept, .ref nt, .int mtaped, .ref nr, .int mrowMany, .int mroundOf, .int mroundFrom, .int mouts, .ref nm, .int mfromHour, .int mtoHour, .ref ns, .int mfrom, .int mto, .int msort, .int misFault, .int mdeep, .int mcoded, .int mlines, .ref nl, .ref nc, .ref nF, .ref np, .ref ntr, .ref nb, .int mbestCost, .ref nso, .ref nsi, .ref nit, .ref nsh, .ref nsf, .ref nss, .ref nrc, .int (nI jr16859), .int 6, .int (nI jno), .int x6834, .int x6835, .int ip16860])), (nrc, .inl (G.2.1, 30, .inl gtrc6861))] H := hP
          have hD : va_D A [(nw, .inl (G.2.1, 1662, .inl fnw)), (nsh, .inl (G.2.1, 4, .inl fnsh)), (nsf, .inl (G.2.1, 4, .inl fnsf)), (h0, .inr (12, [.ref nw, .ref nk, .int mhasKept, .ref nt, .int mtaped, .ref nr, .int mrowMany, .int mroundOf, .int mroundFrom, .int mouts, .ref nm, .int mfromHour, .int mtoHour, .ref ns, .int mfrom, .int mto, .int msort, .int misFault, .int mdeep, .int mcoded, .int mlines, .ref nl, .ref nc, .ref nF, .ref np, .ref ntr, .ref nb, .int mbestCost, .ref nso, .ref nsi, .ref nit, .ref nsh, .ref nsf, .ref nss, .ref nrc, .int (nI jr16859), .int 6, .int (nI jno), .int x6834, .int x6835, .int ip16860])), (nrc, .inl (G.2.1, 30, .inl gtrc6861))] := hD
          obtain ⟨hr6857, w6862⟩ := hr6857
          refine lv_istore (lv' := [(7, .int r6857), (6, .int 0), (5, .int 0), (4, .int 6), (0, .ref h0), (1, .int (nI jt)), (2, .int 3), (3, .int x3)]) hx hb dX12_deal_208 hl (by decide) rfl (fun ls hl => ?_)
          refine lv_aload_n hx hb dX12_deal_210 rfl (lv_at hl 4 rfl) ?_
          refine gf_X12_380 hC rfl hK hP 3 rfl rfl dX12_deal_211 ?_
          refine lv_if_eq (tgt := 222) hx hb dX12_deal_214 (by decide) (fun c_214_6863 => ?_) (fun c_214_6863 => ?_)
          · refine lv_iload hx hb dX12_deal_222 (lv_at hl 0 rfl) ?_
            exact RI (v := r6857) hC hP hD hS [3, 0, 1, 2, 4] (jr16859, 6, nI jno, x6834, x6835, ip16860, gtrc6861) rfl rfl (by decide) (⟨trivial, by omega⟩) rfl dX12_deal_224
          · refine lv_bipush (v := (-15)) hx hb dX12_deal_217 (by decide) ?_
            refine lv_goto (tgt := 224) hx hb dX12_deal_219 (by decide) ?_
            exact RI (v := (-15)) hC hP hD hS [3, 0, 1, 2, 4] (jr16859, 6, nI jno, x6834, x6835, ip16860, gtrc6861) rfl rfl (by decide) (⟨trivial, by omega⟩) rfl dX12_deal_224
    · refine lv_if_ne (tgt := 23) hx hb dX12_deal_16 (by decide) (fun c9 => absurd (by decide) c9) (fun _ => ?_)
      refine lv_iconst (v := (-1)) hx hb dX12_deal_19 (by decide) ?_
      refine lv_goto (tgt := 28) hx hb dX12_deal_20 (by decide) ?_
      refine lv_istore (lv' := [(4, .int (-1)), (0, .ref h0), (1, .int x1), (2, .int x2), (3, .int x3)]) hx hb dX12_deal_28 hl (by decide) rfl (fun ls hl => ?_)
      refine lv_iload hx hb dX12_deal_30 (lv_at hl 0 rfl) ?_
      refine lv_if_ge (tgt := 37) hx hb dX12_deal_32 (by decide) (fun c9 => absurd c9 (by decide)) (fun _ => ?_)
      refine lv_iconst (v := 0) hx hb dX12_deal_35 (by decide) ?_
      exact RI (v := 0) hC hP hD hS [0, 1, 2, 3, 4] (0, mdealer, mnumber, mwhose, msize, misParted, fnrc) rfl rfl (by decide) (⟨trivial, by omega⟩) rfl dX12_deal_36
  · refine lv_if_eq (tgt := 19) hx hb dX12_deal_9 (by decide) (fun _ => ?_) (fun c9 => absurd (by decide) c9)
    refine lv_iconst (v := (-1)) hx hb dX12_deal_19 (by decide) ?_
    refine lv_goto (tgt := 28) hx hb dX12_deal_20 (by decide) ?_
    refine lv_istore (lv' := [(4, .int (-1)), (0, .ref h0), (1, .int x1), (2, .int x2), (3, .int x3)]) hx hb dX12_deal_28 hl (by decide) rfl (fun ls hl => ?_)
    refine lv_iload hx hb dX12_deal_30 (lv_at hl 0 rfl) ?_
    refine lv_if_ge (tgt := 37) hx hb dX12_deal_32 (by decide) (fun c9 => absurd c9 (by decide)) (fun _ => ?_)
    refine lv_iconst (v := 0) hx hb dX12_deal_35 (by decide) ?_
    exact RI (v := 0) hC hP hD hS [0, 1, 2, 3, 4] (0, mdealer, mnumber, mwhose, msize, misParted, fnrc) rfl rfl (by decide) (⟨trivial, by omega⟩) rfl dX12_deal_36
set_option maxHeartbeats 4000000 in
set_option maxRecDepth 100000 in
theorem r_trace (l : Launch) (G : GG) (h0 : Nat) (x1 : Int32) (nw : Nat) (nk : Nat) (mhasKept : Int32) (nt : Nat) (mtaped : Int32) (nr : Nat) (mrowMany : Int32) (mroundOf : Int32) (mroundFrom : Int32) (mouts : Int32) (nm : Nat) (mfromHour : Int32) (mtoHour : Int32) (ns : Nat) (mfrom : Int32) (mto : Int32) (msort : Int32) (misFault : Int32) (mdeep : Int32) (mcoded : Int32) (mlines : Int32) (nl : Nat) (nc : Nat) (nF : Nat) (np : Nat) (ntr : Nat) (nb : Nat) (mbestCost : Int32) (nso : Nat) (nsi : Nat) (nit : Nat) (nsh : Nat) (nsf : Nat) (nss : Nat) (nrc : Nat) (jr : Nat) (mdealer : Int32) (mnumber : Int32) (mwhose : Int32) (msize : Int32) (misParted : Int32) (fnrc : Nat → Int32) (hjr : jr ≤ 30) : MP l G yX12_trace cX12_trace 2 (some .int) 2 [.ref h0, .int x1] [(h0, .inr (12, [.ref nw, .ref nk, .int mhasKept, .ref nt, .int mtaped, .ref nr, .int mrowMany, .int mroundOf, .int mroundFrom, .int mouts, .ref nm, .int mfromHour, .int mtoHour, .ref ns, .int mfrom, .int mto, .int msort, .int misFault, .int mdeep, .int mcoded, .int mlines, .ref nl, .ref nc, .ref nF, .ref np, .ref ntr, .ref nb, .int mbestCost, .ref nso, .ref nsi, .ref nit, .ref nsh, .ref nsf, .ref nss, .ref nrc, .int (nI jr), .int mdealer, .int mnumber, .int mwhose, .int msize, .int misParted])), (nrc, .inl (G.2.1, 30, .inl fnrc))] (fun r : Int32 => r = ifc (Hs x1 jr) (fnrc x1.toNatClampNeg) (-3)) := by
  refine MP.start (by decide +kernel) (Nat.le_of_ble_eq_true rfl) ?_
  intro p e s m below meth c ls hC hK hP hD hl
  have hl : lv_has ls 2 [(0, .ref h0), (1, .int x1)] := hl
  obtain ⟨hx, hb, hr, hml, hB, hown, hlocks, hnm⟩ := id hC
  refine lv_iload_n hx hb dX12_trace_0 rfl (lv_at hl 1 rfl) ?_
  refine lv_iconst (v := 0) hx hb dX12_trace_1 (by decide) ?_
  refine lv_aload_n hx hb dX12_trace_2 rfl (lv_at hl 0 rfl) ?_
  refine gf_X12_351 hC rfl hK hP 0 rfl rfl dX12_trace_3 ?_
  refine lv_iconst (v := 1) hx hb dX12_trace_6 (by decide) ?_
  refine lv_isub hx hb dX12_trace_7 ?_
  refine eqi (x1 := (nI jr) - 1) (rfl) ?_
  refine pS hC hK hl (m_within l G x1 0 ((nI jr) - 1)) si_X12_84 rfl rfl (Nat.le_of_ble_eq_true rfl) ⟨Nat.le_of_ble_eq_true rfl, Nat.le_of_ble_eq_true rfl⟩ ⟨by first | exact Nat.le_of_ble_eq_true rfl | exact Nat.zero_le _, by first | exact Nat.le_of_ble_eq_true rfl | exact Nat.zero_le _⟩ dX12_trace_8 (fun r6864 hr6864 => ?_)
  rcases hr6864 with ⟨rfl, a6865⟩ | ⟨rfl, a6865⟩
  · refine lv_if_eq (tgt := 23) hx hb dX12_trace_11 (by decide) (fun c9 => absurd c9 (by decide)) (fun _ => ?_)
    obtain ⟨ji, hji, rfl⟩ := Hs_nat (by omega) ((WiHs (by omega)).mp a6865)
    refine lv_aload_n hx hb dX12_trace_14 rfl (lv_at hl 0 rfl) ?_
    refine gf_X12_81 hC rfl hK hP 0 rfl rfl dX12_trace_15 ?_
    refine lv_iload_n hx hb dX12_trace_18 rfl (lv_at hl 1 rfl) ?_
    refine ald hC hK hP 1 rfl (vp_in_nI (by omega) (by omega)) (k := ji) (nI_clamp (by omega)) (v := fnrc ji) rfl dX12_trace_19 ?_
    refine lv_goto (tgt := 25) hx hb dX12_trace_20 (by decide) ?_
    exact RP (v := fnrc ji) hC ((by simp only [nI_clamp (n := ji) (by omega), ifc_t (q := Hs (nI ji) jr) ((WiHc (by omega)).mp a6865)])) rfl dX12_trace_25
  · refine lv_if_eq (tgt := 23) hx hb dX12_trace_11 (by decide) (fun _ => ?_) (fun c9 => absurd (by decide) c9)
    refine lv_bipush (v := (-3)) hx hb dX12_trace_23 (by decide) ?_
    exact RP (v := (-3)) hC ((by simp only [ifc_f (q := Hs x1 jr) (fun h9 => a6865 ((WiHc (by omega)).mpr h9))])) rfl dX12_trace_25
set_option maxHeartbeats 4000000 in
set_option maxRecDepth 100000 in
theorem r_many (l : Launch) (G : GG) (h0 : Nat) (x1 : Int32) (nw : Nat) (nk : Nat) (mhasKept : Int32) (nt : Nat) (mtaped : Int32) (nr : Nat) (mrowMany : Int32) (mroundOf : Int32) (mroundFrom : Int32) (mouts : Int32) (nm : Nat) (mfromHour : Int32) (mtoHour : Int32) (ns : Nat) (mfrom : Int32) (mto : Int32) (msort : Int32) (misFault : Int32) (mdeep : Int32) (mcoded : Int32) (mlines : Int32) (nl : Nat) (nc : Nat) (nF : Nat) (np : Nat) (ntr : Nat) (nb : Nat) (mbestCost : Int32) (nso : Nat) (nsi : Nat) (nit : Nat) (nsh : Nat) (nsf : Nat) (nss : Nat) (nrc : Nat) (mtraced : Int32) (mdealer : Int32) (mnumber : Int32) (mwhose : Int32) (msize : Int32) (misParted : Int32) (fnw : Nat → Int32) (fnm : Nat → Int32) (fns : Nat → Int32) (fnp : Nat → Int32) (hN : NI fnw) (hV : VI fnw) (hM : MB fnm) : MI l G yX12_many cX12_many 4 (some .int) 10 0 0 [.ref h0, .int x1] [(h0, .inr (12, [.ref nw, .ref nk, .int mhasKept, .ref nt, .int mtaped, .ref nr, .int mrowMany, .int mroundOf, .int mroundFrom, .int mouts, .ref nm, .int mfromHour, .int mtoHour, .ref ns, .int mfrom, .int mto, .int msort, .int misFault, .int mdeep, .int mcoded, .int mlines, .ref nl, .ref nc, .ref nF, .ref np, .ref ntr, .ref nb, .int mbestCost, .ref nso, .ref nsi, .ref nit, .ref nsh, .ref nsf, .ref nss, .ref nrc, .int mtraced, .int mdealer, .int mnumber, .int mwhose, .int msize, .int misParted])), (nw, .inl (G.2.1, 1662, .inl fnw)), (nm, .inl (G.2.1, 36, .inl fnm)), (ns, .inl (G.2.1, 8, .inl fns)), (np, .inl (G.2.1, 100, .inl fnp))] (fun (r : Int32) (u : Int32 × Int32 × (Nat → Int32) × (Nat → Int32) × (Nat → Int32)) => (True) ∧ (MB u.2.2.1)) (fun u : Int32 × Int32 × (Nat → Int32) × (Nat → Int32) × (Nat → Int32) => [(h0, .inr (12, [.ref nw, .ref nk, .int mhasKept, .ref nt, .int mtaped, .ref nr, .int mrowMany, .int mroundOf, .int mroundFrom, .int mouts, .ref nm, .int u.1, .int u.2.1, .ref ns, .int mfrom, .int mto, .int msort, .int misFault, .int mdeep, .int mcoded, .int mlines, .ref nl, .ref nc, .ref nF, .ref np, .ref ntr, .ref nb, .int mbestCost, .ref nso, .ref nsi, .ref nit, .ref nsh, .ref nsf, .ref nss, .ref nrc, .int mtraced, .int mdealer, .int mnumber, .int mwhose, .int msize, .int misParted])), (nw, .inl (G.2.1, 1662, .inl fnw)), (nm, .inl (G.2.1, 36, .inl u.2.2.1)), (ns, .inl (G.2.1, 8, .inl u.2.2.2.1)), (np, .inl (G.2.1, 100, .inl u.2.2.2.2))]) := by
  refine MI.start (by decide +kernel) (Nat.le_of_ble_eq_true rfl) ?_
  intro p e s m below meth c A ls hC hK hP hD hS hA hl
  have hl : lv_has ls 4 [(0, .ref h0), (1, .int x1)] := hl
  obtain ⟨hx, hb, hr, hml, hB, hown, hlocks, hnm⟩ := id hC
  obtain ⟨k9, hk9, ek9⟩ := NI.nat hN (i := 9) (B := 12) (by decide +kernel) (by decide)
  refine lv_iload_n hx hb dX12_many_0 rfl (lv_at hl 1 rfl) ?_
  by_cases c_1_6866 : x1 = 0
  · refine lv_tableIn (tgt := 76) hx hb dX12_many_1 (by rw [c_1_6866]; decide) (by rw [c_1_6866]; decide) (by rw [c_1_6866]; rfl) (by decide) ?_
    refine lv_aload_n hx hb dX12_many_76 rfl (lv_at hl 0 rfl) ?_
    refine gf_X12_9 hC rfl hK hP 0 rfl rfl dX12_many_77 ?_
    refine lv_iconst (v := 0) hx hb dX12_many_80 (by decide) ?_
    refine ald hC hK hP 1 rfl (vin (by decide +kernel)) (k := 0) (by decide +kernel) (v := fnw 0) (rfl) dX12_many_81 ?_
    exact RI (v := fnw 0) hC hP hD hS [0, 1, 2, 3, 4] (mfromHour, mtoHour, fnm, fns, fnp) rfl rfl (by decide) (⟨trivial, by first | assumption | exact hM⟩) rfl dX12_many_82
  by_cases c_1_6867 : x1 = 1
  · refine lv_tableIn (tgt := 83) hx hb dX12_many_1 (by rw [c_1_6867]; decide) (by rw [c_1_6867]; decide) (by rw [c_1_6867]; rfl) (by decide) ?_
    refine lv_aload_n hx hb dX12_many_83 rfl (lv_at hl 0 rfl) ?_
    refine gf_X12_9 hC rfl hK hP 0 rfl rfl dX12_many_84 ?_
    refine lv_iconst (v := 4) hx hb dX12_many_87 (by decide) ?_
    refine ald hC hK hP 1 rfl (vin (by decide +kernel)) (k := 4) (by decide +kernel) (v := fnw 4) (rfl) dX12_many_88 ?_
    exact RI (v := fnw 4) hC hP hD hS [0, 1, 2, 3, 4] (mfromHour, mtoHour, fnm, fns, fnp) rfl rfl (by decide) (⟨trivial, by first | assumption | exact hM⟩) rfl dX12_many_89
  by_cases c_1_6868 : x1 = 2
  · refine lv_tableIn (tgt := 90) hx hb dX12_many_1 (by rw [c_1_6868]; decide) (by rw [c_1_6868]; decide) (by rw [c_1_6868]; rfl) (by decide) ?_
    refine lv_aload_n hx hb dX12_many_90 rfl (lv_at hl 0 rfl) ?_
    refine gf_X12_9 hC rfl hK hP 0 rfl rfl dX12_many_91 ?_
    refine lv_iconst (v := 5) hx hb dX12_many_94 (by decide) ?_
    refine ald hC hK hP 1 rfl (vin (by decide +kernel)) (k := 5) (by decide +kernel) (v := fnw 5) (rfl) dX12_many_95 ?_
    exact RI (v := fnw 5) hC hP hD hS [0, 1, 2, 3, 4] (mfromHour, mtoHour, fnm, fns, fnp) rfl rfl (by decide) (⟨trivial, by first | assumption | exact hM⟩) rfl dX12_many_96
  by_cases c_1_6869 : x1 = 3
  · refine lv_tableIn (tgt := 97) hx hb dX12_many_1 (by rw [c_1_6869]; decide) (by rw [c_1_6869]; decide) (by rw [c_1_6869]; rfl) (by decide) ?_
    refine lv_aload_n hx hb dX12_many_97 rfl (lv_at hl 0 rfl) ?_
    refine pV hC hK hl hP hD (m_inView l G h0 nw nk mhasKept nt mtaped nr mrowMany mroundOf mroundFrom mouts nm mfromHour mtoHour ns mfrom mto msort misFault mdeep mcoded mlines nl nc nF np ntr nb mbestCost nso nsi nit nsh nsf nss nrc mtraced mdealer mnumber mwhose msize misParted fnw (hN)) si_X12_107 [0, 1] rfl rfl (by decide) rfl rfl rfl rfl rfl (Nat.le_of_ble_eq_true rfl) ⟨Nat.le_of_ble_eq_true rfl, Nat.le_of_ble_eq_true rfl⟩ ⟨by first | exact Nat.le_of_ble_eq_true rfl | exact Nat.zero_le _, by first | exact Nat.le_of_ble_eq_true rfl | exact Nat.zero_le _⟩ dX12_many_98 (fun r6870 hr6870 => ?_)
    refine pS hC hK hl (m_bits l G r6870) si_X12_110 rfl rfl (Nat.le_of_ble_eq_true rfl) ⟨Nat.le_of_ble_eq_true rfl, Nat.le_of_ble_eq_true rfl⟩ ⟨by first | exact Nat.le_of_ble_eq_true rfl | exact Nat.zero_le _, by first | exact Nat.le_of_ble_eq_true rfl | exact Nat.zero_le _⟩ dX12_many_101 (fun r6871 hr6871 => ?_)
    exact RI (v := r6871) hC hP hD hS [0, 1, 2, 3, 4] (mfromHour, mtoHour, fnm, fns, fnp) rfl rfl (by decide) (⟨trivial, by first | assumption | exact hM⟩) rfl dX12_many_104
  by_cases c_1_6872 : x1 = 4
  · refine lv_tableIn (tgt := 105) hx hb dX12_many_1 (by rw [c_1_6872]; decide) (by rw [c_1_6872]; decide) (by rw [c_1_6872]; rfl) (by decide) ?_
    refine lv_aload_n hx hb dX12_many_105 rfl (lv_at hl 0 rfl) ?_
    refine gf_X12_9 hC rfl hK hP 0 rfl rfl dX12_many_106 ?_
    refine lv_bipush (v := 6) hx hb dX12_many_109 (by decide) ?_
    refine ald hC hK hP 1 rfl (vin (by decide +kernel)) (k := 6) (by decide +kernel) (v := fnw 6) (rfl) dX12_many_111 ?_
    exact RI (v := fnw 6) hC hP hD hS [0, 1, 2, 3, 4] (mfromHour, mtoHour, fnm, fns, fnp) rfl rfl (by decide) (⟨trivial, by first | assumption | exact hM⟩) rfl dX12_many_112
  by_cases c_1_6873 : x1 = 5
  · refine lv_tableIn (tgt := 113) hx hb dX12_many_1 (by rw [c_1_6873]; decide) (by rw [c_1_6873]; decide) (by rw [c_1_6873]; rfl) (by decide) ?_
    refine lv_aload_n hx hb dX12_many_113 rfl (lv_at hl 0 rfl) ?_
    refine gf_X12_9 hC rfl hK hP 0 rfl rfl dX12_many_114 ?_
    refine lv_bipush (v := 7) hx hb dX12_many_117 (by decide) ?_
    refine ald hC hK hP 1 rfl (vin (by decide +kernel)) (k := 7) (by decide +kernel) (v := fnw 7) (rfl) dX12_many_119 ?_
    exact RI (v := fnw 7) hC hP hD hS [0, 1, 2, 3, 4] (mfromHour, mtoHour, fnm, fns, fnp) rfl rfl (by decide) (⟨trivial, by first | assumption | exact hM⟩) rfl dX12_many_120
  by_cases c_1_6874 : x1 = 6
  · refine lv_tableIn (tgt := 121) hx hb dX12_many_1 (by rw [c_1_6874]; decide) (by rw [c_1_6874]; decide) (by rw [c_1_6874]; rfl) (by decide) ?_
    refine lv_aload_n hx hb dX12_many_121 rfl (lv_at hl 0 rfl) ?_
    refine gf_X12_9 hC rfl hK hP 0 rfl rfl dX12_many_122 ?_
    refine lv_bipush (v := 8) hx hb dX12_many_125 (by decide) ?_
    refine ald hC hK hP 1 rfl (vin (by decide +kernel)) (k := 8) (by decide +kernel) (v := fnw 8) (rfl) dX12_many_127 ?_
    exact RI (v := fnw 8) hC hP hD hS [0, 1, 2, 3, 4] (mfromHour, mtoHour, fnm, fns, fnp) rfl rfl (by decide) (⟨trivial, by first | assumption | exact hM⟩) rfl dX12_many_128
  by_cases c_1_6875 : x1 = 7
  · refine lv_tableIn (tgt := 129) hx hb dX12_many_1 (by rw [c_1_6875]; decide) (by rw [c_1_6875]; decide) (by rw [c_1_6875]; rfl) (by decide) ?_
    refine lv_aload_n hx hb dX12_many_129 rfl (lv_at hl 0 rfl) ?_
    refine lv_iconst (v := (-1)) hx hb dX12_many_130 (by decide) ?_
    refine pV hC hK hl hP hD (m_saidBy l G h0 (-1) nw nk mhasKept nt mtaped nr mrowMany mroundOf mroundFrom mouts nm mfromHour mtoHour ns mfrom mto msort misFault mdeep mcoded mlines nl nc nF np ntr nb mbestCost nso nsi nit nsh nsf nss nrc mtraced mdealer mnumber mwhose msize misParted fnw (hN)) si_X12_127 [0, 1] rfl rfl (by decide) rfl rfl rfl rfl rfl (Nat.le_of_ble_eq_true rfl) ⟨Nat.le_of_ble_eq_true rfl, Nat.le_of_ble_eq_true rfl⟩ ⟨by first | exact Nat.le_of_ble_eq_true rfl | exact Nat.zero_le _, by first | exact Nat.le_of_ble_eq_true rfl | exact Nat.zero_le _⟩ dX12_many_131 (fun r6876 hr6876 => ?_)
    exact RI (v := r6876) hC hP hD hS [0, 1, 2, 3, 4] (mfromHour, mtoHour, fnm, fns, fnp) rfl rfl (by decide) (⟨trivial, by first | assumption | exact hM⟩) rfl dX12_many_134
  by_cases c_1_6877 : x1 = 8
  · refine lv_tableIn (tgt := 135) hx hb dX12_many_1 (by rw [c_1_6877]; decide) (by rw [c_1_6877]; decide) (by rw [c_1_6877]; rfl) (by decide) ?_
    refine lv_aload_n hx hb dX12_many_135 rfl (lv_at hl 0 rfl) ?_
    refine gf_X12_9 hC rfl hK hP 0 rfl rfl dX12_many_136 ?_
    refine lv_bipush (v := 9) hx hb dX12_many_139 (by decide) ?_
    refine ald hC hK hP 1 rfl (vin (by decide +kernel)) (k := 9) (by decide +kernel) (v := nI k9) (ek9) dX12_many_141 ?_
    exact RI (v := nI k9) hC hP hD hS [0, 1, 2, 3, 4] (mfromHour, mtoHour, fnm, fns, fnp) rfl rfl (by decide) (⟨trivial, by first | assumption | exact hM⟩) rfl dX12_many_142
  by_cases c_1_6878 : x1 = 9
  · refine lv_tableIn (tgt := 143) hx hb dX12_many_1 (by rw [c_1_6878]; decide) (by rw [c_1_6878]; decide) (by rw [c_1_6878]; rfl) (by decide) ?_
    refine lv_iconst (v := 0) hx hb dX12_many_143 (by decide) ?_
    refine lv_istore_n (lv' := [(2, .int 0), (0, .ref h0), (1, .int x1)]) hx hb dX12_many_144 rfl hl (by decide) rfl (fun ls hl => ?_)
    refine lv_iconst (v := 0) hx hb dX12_many_145 (by decide) ?_
    refine lv_istore_n (lv' := [(3, .int 0), (2, .int 0), (0, .ref h0), (1, .int x1)]) hx hb dX12_many_146 rfl hl (by decide) rfl (fun ls hl => ?_)
    have keyP : ∀ (nP kP : Nat) (nn : Int32) (vfh : Int32) (vth : Int32) (vA : Nat → Int32) (vS : Nat → Int32) (vR : Nat → Int32) (H : Heap) (locs : List Loc) (ls : Array Slot), kP + nP = k9 → (MB vA) → va_P G.1 vwCl [(h0, .inr (12, [.ref nw, .ref nk, .int mhasKept, .ref nt, .int mtaped, .ref nr, .int mrowMany, .int mroundOf, .int mroundFrom, .int mouts, .ref nm, .int vfh, .int vth, .ref ns, .int mfrom, .int mto, .int msort, .int misFault, .int mdeep, .int mcoded, .int mlines, .ref nl, .ref nc, .ref nF, .ref np, .ref ntr, .ref nb, .int mbestCost, .ref nso, .ref nsi, .ref nit, .ref nsh, .ref nsf, .ref nss, .ref nrc, .int mtraced, .int mdealer, .int mnumber, .int mwhose, .int msize, .int misParted])), (nw, .inl (G.2.1, 1662, .inl fnw)), (nm, .inl (G.2.1, 36, .inl vA)), (ns, .inl (G.2.1, 8, .inl vS)), (np, .inl (G.2.1, 100, .inl vR))] H → va_D A [(h0, .inr (12, [.ref nw, .ref nk, .int mhasKept, .ref nt, .int mtaped, .ref nr, .int mrowMany, .int mroundOf, .int mroundFrom, .int mouts, .ref nm, .int vfh, .int vth, .ref ns, .int mfrom, .int mto, .int msort, .int misFault, .int mdeep, .int mcoded, .int mlines, .ref nl, .ref nc, .ref nF, .ref np, .ref ntr, .ref nb, .int mbestCost, .ref nso, .ref nsi, .ref nit, .ref nsh, .ref nsf, .ref nss, .ref nrc, .int mtraced, .int mdealer, .int mnumber, .int mwhose, .int msize, .int misParted])), (nw, .inl (G.2.1, 1662, .inl fnw)), (nm, .inl (G.2.1, 36, .inl vA)), (ns, .inl (G.2.1, 8, .inl vS)), (np, .inl (G.2.1, 100, .inl vR))] → va_S A s.heap H locs → lv_has ls 4 [(3, .int (nI kP)), (2, .int nn), (0, .ref h0), (1, .int x1)] → W p l e (RM 10 0 0) s m ([.ref h0, .int x1] : List Value).toArray below meth c H locs 0 0 (MQ below (QI G (fun (r : Int32) (u : Int32 × Int32 × (Nat → Int32) × (Nat → Int32) × (Nat → Int32)) => (True) ∧ (MB u.2.2.1)) (fun u : Int32 × Int32 × (Nat → Int32) × (Nat → Int32) × (Nat → Int32) => [(h0, .inr (12, [.ref nw, .ref nk, .int mhasKept, .ref nt, .int mtaped, .ref nr, .int mrowMany, .int mroundOf, .int mroundFrom, .int mouts, .ref nm, .int u.1, .int u.2.1, .ref ns, .int mfrom, .int mto, .int msort, .int misFault, .int mdeep, .int mcoded, .int mlines, .ref nl, .ref nc, .ref nF, .ref np, .ref ntr, .ref nb, .int mbestCost, .ref nso, .ref nsi, .ref nit, .ref nsh, .ref nsf, .ref nss, .ref nrc, .int mtraced, .int mdealer, .int mnumber, .int mwhose, .int msize, .int misParted])), (nw, .inl (G.2.1, 1662, .inl fnw)), (nm, .inl (G.2.1, 36, .inl u.2.2.1)), (ns, .inl (G.2.1, 8, .inl u.2.2.2.1)), (np, .inl (G.2.1, 100, .inl u.2.2.2.2))]) A) ([.ref h0, .int x1] : List Value).toArray s 0 0 A) (F0 m 147 ls []) := by
      intro nP
      induction nP with
      | zero =>
        intro kP nn vfh vth vA vS vR H locs ls hkP hvA hP hD hS hl
        obtain rfl : k9 = kP := by omega
        have hl : lv_has ls 4 [(3, .int (nI k9)), (2, .int nn), (0, .ref h0), (1, .int x1)] := hl
        refine lv_iload_n hx hb dX12_many_147 rfl (lv_at hl 0 rfl) ?_
        refine lv_aload_n hx hb dX12_many_148 rfl (lv_at hl 2 rfl) ?_
        refine gf_X12_9 hC rfl hK hP 0 rfl rfl dX12_many_149 ?_
        refine lv_bipush (v := 9) hx hb dX12_many_152 (by decide) ?_
        refine ald hC hK hP 1 rfl (vin (by decide +kernel)) (k := 9) (by decide +kernel) (v := nI k9) (ek9) dX12_many_154 ?_
        refine lv_icmp_ge (tgt := 180) hx hb dX12_many_155 (by decide) (fun _ => ?_) (fun c9 => absurd (Int32.le_refl _) c9)
        refine lv_iload_n hx hb dX12_many_180 rfl (lv_at hl 1 rfl) ?_
        exact RI (v := nn) hC hP hD hS [0, 1, 2, 3, 4] (vfh, vth, vA, vS, vR) rfl rfl (by decide) (⟨trivial, by first | assumption | exact hM⟩) rfl dX12_many_181
      | succ nP ihP =>
        intro kP nn vfh vth vA vS vR H locs ls hkP hvA hP hD hS hl
        refine lv_iload_n hx hb dX12_many_147 rfl (lv_at hl 0 rfl) ?_
        refine lv_aload_n hx hb dX12_many_148 rfl (lv_at hl 2 rfl) ?_
        refine gf_X12_9 hC rfl hK hP 0 rfl rfl dX12_many_149 ?_
        refine lv_bipush (v := 9) hx hb dX12_many_152 (by decide) ?_
        refine ald hC hK hP 1 rfl (vin (by decide +kernel)) (k := 9) (by decide +kernel) (v := nI k9) (ek9) dX12_many_154 ?_
        refine lv_icmp_ge (tgt := 180) hx hb dX12_many_155 (by decide) (fun c9 => absurd c9 (nI_ge (a := kP) (b := k9) (by omega) (by omega))) (fun _ => ?_)
        refine lv_iload_n hx hb dX12_many_158 rfl (lv_at hl 1 rfl) ?_
        refine lv_aload_n hx hb dX12_many_159 rfl (lv_at hl 2 rfl) ?_
        refine lv_iload_n hx hb dX12_many_160 rfl (lv_at hl 0 rfl) ?_
        refine iV (wr := []) hC hK hl hP hD hS hA (m_stands l G h0 kP nw nk mhasKept nt mtaped nr mrowMany mroundOf mroundFrom mouts nm vfh vth ns mfrom mto msort misFault mdeep mcoded mlines nl nc nF np ntr nb mbestCost nso nsi nit nsh nsf nss nrc mtraced mdealer mnumber mwhose msize misParted fnw vA vS vR (by omega) (hN) (hV) (hvA)) si_X12_305 [0, 1, 2, 3, 4] [] rfl rfl (by decide) rfl (by decide) (by decide) rfl rfl rfl rfl rfl (Nat.le_of_ble_eq_true rfl) ⟨Nat.le_of_ble_eq_true rfl, Nat.le_of_ble_eq_true rfl⟩ ⟨Nat.le_of_ble_eq_true rfl, Nat.le_of_ble_eq_true rfl⟩ dX12_many_161 (fun r6879 u6880 H locs hr6879 hP hD hS => ?_)
        obtain ⟨fh16881, th16882, gnm6883, gns6884, gnp6885⟩ := u6880
        try dsimp only at hr6879
        have hP : va_P G.1 vwCl [(h0, .inr (12, [.ref nw, .ref nk, .int mhasKept, .ref nt, .int mtaped, .ref nr, .int mrowMany, .int mroundOf, .int mroundFrom, .int mouts, .ref nm, .int fh16881, .int th16882, .ref ns, .int mfrom, .int mto, .int msort, .int misFault, .int mdeep, .int mcoded, .int mlines, .ref nl, .ref nc, .ref nF, .ref np, .ref ntr, .ref nb, .int mbestCost, .ref nso, .ref nsi, .ref nit, .ref nsh, .ref nsf, .ref nss, .ref nrc, .int mtraced, .int mdealer, .int mnumber, .int mwhose, .int msize, .int misParted])), (nw, .inl (G.2.1, 1662, .inl fnw)), (nm, .inl (G.2.1, 36, .inl gnm6883)), (ns, .inl (G.2.1, 8, .inl gns6884)), (np, .inl (G.2.1, 100, .inl gnp6885))] H := hP
        have hD : va_D A [(h0, .inr (12, [.ref nw, .ref nk, .int mhasKept, .ref nt, .int mtaped, .ref nr, .int mrowMany, .int mroundOf, .int mroundFrom, .int mouts, .ref nm, .int fh16881, .int th16882, .ref ns, .int mfrom, .int mto, .int msort, .int misFault, .int mdeep, .int mcoded, .int mlines, .ref nl, .ref nc, .ref nF, .ref np, .ref ntr, .ref nb, .int mbestCost, .ref nso, .ref nsi, .ref nit, .ref nsh, .ref nsf, .ref nss, .ref nrc, .int mtraced, .int mdealer, .int mnumber, .int mwhose, .int msize, .int misParted])), (nw, .inl (G.2.1, 1662, .inl fnw)), (nm, .inl (G.2.1, 36, .inl gnm6883)), (ns, .inl (G.2.1, 8, .inl gns6884)), (np, .inl (G.2.1, 100, .inl gnp6885))] := hD
        obtain ⟨hr6879, w6886⟩ := hr6879
        rcases hr6879 with rfl | rfl
        · refine lv_if_eq (tgt := 171) hx hb dX12_many_164 (by decide) (fun c9 => absurd c9 (by decide)) (fun _ => ?_)
          refine lv_iconst (v := 1) hx hb dX12_many_167 (by decide) ?_
          refine lv_goto (tgt := 172) hx hb dX12_many_168 (by decide) ?_
          refine lv_iadd hx hb dX12_many_172 ?_
          refine lv_istore_n (lv' := [(2, .int (nn + 1)), (3, .int (nI kP)), (0, .ref h0), (1, .int x1)]) hx hb dX12_many_173 rfl hl (by decide) rfl (fun ls hl => ?_)
          refine lv_iinc (v := nI (kP + 1)) (lv' := [(3, .int (nI (kP + 1))), (2, .int (nn + 1)), (0, .ref h0), (1, .int x1)]) hx hb dX12_many_174 hl (k := 1) rfl (nI_1 _) (by decide) rfl (fun ls hl => ?_)
          refine lv_goto (tgt := 147) hx hb dX12_many_177 (by decide) ?_
          exact ihP (kP + 1) (nn + 1) fh16881 th16882 gnm6883 gns6884 gnp6885 _ _ _ (by omega) (by first | assumption | exact Or.inl rfl | exact Or.inr rfl) hP hD hS (lv_sub hl [0, 1, 2, 3] rfl)
        · refine lv_if_eq (tgt := 171) hx hb dX12_many_164 (by decide) (fun _ => ?_) (fun c9 => absurd (by decide) c9)
          refine lv_iconst (v := 0) hx hb dX12_many_171 (by decide) ?_
          refine lv_iadd hx hb dX12_many_172 ?_
          refine lv_istore_n (lv' := [(2, .int (nn + 0)), (3, .int (nI kP)), (0, .ref h0), (1, .int x1)]) hx hb dX12_many_173 rfl hl (by decide) rfl (fun ls hl => ?_)
          refine lv_iinc (v := nI (kP + 1)) (lv' := [(3, .int (nI (kP + 1))), (2, .int (nn + 0)), (0, .ref h0), (1, .int x1)]) hx hb dX12_many_174 hl (k := 1) rfl (nI_1 _) (by decide) rfl (fun ls hl => ?_)
          refine lv_goto (tgt := 147) hx hb dX12_many_177 (by decide) ?_
          exact ihP (kP + 1) (nn + 0) fh16881 th16882 gnm6883 gns6884 gnp6885 _ _ _ (by omega) (by first | assumption | exact Or.inl rfl | exact Or.inr rfl) hP hD hS (lv_sub hl [0, 1, 2, 3] rfl)
    exact keyP k9 0 0 mfromHour mtoHour fnm fns fnp _ _ _ (by omega) (by first | assumption | exact Or.inl rfl | exact Or.inr rfl) hP hD hS (lv_sub hl [0, 1, 2, 3] rfl)
  by_cases c_1_6888 : x1 = 10
  · refine lv_tableIn (tgt := 182) hx hb dX12_many_1 (by rw [c_1_6888]; decide) (by rw [c_1_6888]; decide) (by rw [c_1_6888]; rfl) (by decide) ?_
    refine lv_aload_n hx hb dX12_many_182 rfl (lv_at hl 0 rfl) ?_
    refine gf_X12_9 hC rfl hK hP 0 rfl rfl dX12_many_183 ?_
    refine lv_bipush (v := 10) hx hb dX12_many_186 (by decide) ?_
    refine ald hC hK hP 1 rfl (vin (by decide +kernel)) (k := 10) (by decide +kernel) (v := fnw 10) (rfl) dX12_many_188 ?_
    exact RI (v := fnw 10) hC hP hD hS [0, 1, 2, 3, 4] (mfromHour, mtoHour, fnm, fns, fnp) rfl rfl (by decide) (⟨trivial, by first | assumption | exact hM⟩) rfl dX12_many_189
  by_cases c_1_6889 : x1 = 11
  · refine lv_tableIn (tgt := 190) hx hb dX12_many_1 (by rw [c_1_6889]; decide) (by rw [c_1_6889]; decide) (by rw [c_1_6889]; rfl) (by decide) ?_
    refine lv_aload_n hx hb dX12_many_190 rfl (lv_at hl 0 rfl) ?_
    refine gf_X12_9 hC rfl hK hP 0 rfl rfl dX12_many_191 ?_
    refine lv_bipush (v := 11) hx hb dX12_many_194 (by decide) ?_
    refine ald hC hK hP 1 rfl (vin (by decide +kernel)) (k := 11) (by decide +kernel) (v := fnw 11) (rfl) dX12_many_196 ?_
    exact RI (v := fnw 11) hC hP hD hS [0, 1, 2, 3, 4] (mfromHour, mtoHour, fnm, fns, fnp) rfl rfl (by decide) (⟨trivial, by first | assumption | exact hM⟩) rfl dX12_many_197
  by_cases c_1_6890 : x1 = 12
  · refine lv_tableIn (tgt := 198) hx hb dX12_many_1 (by rw [c_1_6890]; decide) (by rw [c_1_6890]; decide) (by rw [c_1_6890]; rfl) (by decide) ?_
    refine lv_aload_n hx hb dX12_many_198 rfl (lv_at hl 0 rfl) ?_
    refine gf_X12_327 hC rfl hK hP 0 rfl rfl dX12_many_199 ?_
    exact RI (v := mrowMany) hC hP hD hS [0, 1, 2, 3, 4] (mfromHour, mtoHour, fnm, fns, fnp) rfl rfl (by decide) (⟨trivial, by first | assumption | exact hM⟩) rfl dX12_many_202
  by_cases c_1_6891 : x1 = 13
  · refine lv_tableIn (tgt := 203) hx hb dX12_many_1 (by rw [c_1_6891]; decide) (by rw [c_1_6891]; decide) (by rw [c_1_6891]; rfl) (by decide) ?_
    refine lv_aload_n hx hb dX12_many_203 rfl (lv_at hl 0 rfl) ?_
    refine gf_X12_206 hC rfl hK hP 0 rfl rfl dX12_many_204 ?_
    exact RI (v := mtaped) hC hP hD hS [0, 1, 2, 3, 4] (mfromHour, mtoHour, fnm, fns, fnp) rfl rfl (by decide) (⟨trivial, by first | assumption | exact hM⟩) rfl dX12_many_207
  by_cases c_1_6892 : x1 = 14
  · refine lv_tableIn (tgt := 208) hx hb dX12_many_1 (by rw [c_1_6892]; decide) (by rw [c_1_6892]; decide) (by rw [c_1_6892]; rfl) (by decide) ?_
    refine lv_aload_n hx hb dX12_many_208 rfl (lv_at hl 0 rfl) ?_
    refine gf_X12_351 hC rfl hK hP 0 rfl rfl dX12_many_209 ?_
    exact RI (v := mtraced) hC hP hD hS [0, 1, 2, 3, 4] (mfromHour, mtoHour, fnm, fns, fnp) rfl rfl (by decide) (⟨trivial, by first | assumption | exact hM⟩) rfl dX12_many_212
  refine lv_tableOut (tgt := 213) hx hb dX12_many_1 (by have q9 := sw_0_14 (x := x1); simp only [c_1_6866, c_1_6867, c_1_6868, c_1_6869, c_1_6872, c_1_6873, c_1_6874, c_1_6875, c_1_6877, c_1_6878, c_1_6888, c_1_6889, c_1_6890, c_1_6891, c_1_6892, not_false_eq_true, true_implies] at q9; exact q9) (by decide) ?_
  refine lv_iconst (v := (-1)) hx hb dX12_many_213 (by decide) ?_
  exact RI (v := (-1)) hC hP hD hS [0, 1, 2, 3, 4] (mfromHour, mtoHour, fnm, fns, fnp) rfl rfl (by decide) (⟨trivial, by first | assumption | exact hM⟩) rfl dX12_many_214
set_option maxHeartbeats 4000000 in
set_option maxRecDepth 100000 in
theorem w_keep (l : Launch) (G : GG) (h0 : Nat) (nw : Nat) (nk : Nat) (mhasKept : Int32) (nt : Nat) (mtaped : Int32) (nr : Nat) (mrowMany : Int32) (mroundOf : Int32) (mroundFrom : Int32) (mouts : Int32) (nm : Nat) (mfromHour : Int32) (mtoHour : Int32) (ns : Nat) (mfrom : Int32) (mto : Int32) (msort : Int32) (misFault : Int32) (mdeep : Int32) (mcoded : Int32) (mlines : Int32) (nl : Nat) (nc : Nat) (nF : Nat) (np : Nat) (ntr : Nat) (nb : Nat) (mbestCost : Int32) (nso : Nat) (nsi : Nat) (nit : Nat) (nsh : Nat) (nsf : Nat) (nss : Nat) (nrc : Nat) (mtraced : Int32) (mdealer : Int32) (mnumber : Int32) (mwhose : Int32) (msize : Int32) (misParted : Int32) (fnw : Nat → Int32) (fnk : Nat → Int32) (hN : NI fnw) (hV : VI fnw) : MI l G yX12_keep cX12_keep 2 (some .int) 1 0 0 [.ref h0] [(h0, .inr (12, [.ref nw, .ref nk, .int mhasKept, .ref nt, .int mtaped, .ref nr, .int mrowMany, .int mroundOf, .int mroundFrom, .int mouts, .ref nm, .int mfromHour, .int mtoHour, .ref ns, .int mfrom, .int mto, .int msort, .int misFault, .int mdeep, .int mcoded, .int mlines, .ref nl, .ref nc, .ref nF, .ref np, .ref ntr, .ref nb, .int mbestCost, .ref nso, .ref nsi, .ref nit, .ref nsh, .ref nsf, .ref nss, .ref nrc, .int mtraced, .int mdealer, .int mnumber, .int mwhose, .int msize, .int misParted])), (nw, .inl (G.2.1, 1662, .inl fnw)), (nk, .inl (G.2.1, 1662, .inl fnk))] (fun (r : Int32) (u : (Nat → Int32)) => (r = 1) ∧ (NI u ∧ VI u ∧ SCX u (fnw 0) (fnw 1) (fnw 2) (fnw 3) (fnw 4) (fnw 5) (fnw 6) (fnw 8) (fnw 9) (fnw 10) (fnw 11) ∧ AG 1662 fnw u)) (fun u : (Nat → Int32) => [(h0, .inr (12, [.ref nw, .ref nk, .int 1, .ref nt, .int mtaped, .ref nr, .int mrowMany, .int mroundOf, .int mroundFrom, .int mouts, .ref nm, .int mfromHour, .int mtoHour, .ref ns, .int mfrom, .int mto, .int msort, .int misFault, .int mdeep, .int mcoded, .int mlines, .ref nl, .ref nc, .ref nF, .ref np, .ref ntr, .ref nb, .int mbestCost, .ref nso, .ref nsi, .ref nit, .ref nsh, .ref nsf, .ref nss, .ref nrc, .int mtraced, .int mdealer, .int mnumber, .int mwhose, .int msize, .int misParted])), (nw, .inl (G.2.1, 1662, .inl fnw)), (nk, .inl (G.2.1, 1662, .inl u))]) := by
  refine MI.start (by decide +kernel) (Nat.le_of_ble_eq_true rfl) ?_
  intro p e s m below meth c A ls hC hK hP hD hS hA hl
  have hl : lv_has ls 2 [(0, .ref h0)] := hl
  obtain ⟨hx, hb, hr, hml, hB, hown, hlocks, hnm⟩ := id hC
  refine lv_iconst (v := 0) hx hb dX12_keep_0 (by decide) ?_
  refine lv_istore_n (lv' := [(1, .int 0), (0, .ref h0)]) hx hb dX12_keep_1 rfl hl (by decide) rfl (fun ls hl => ?_)
  have keyP : ∀ (nP kP : Nat) (vK : Nat → Int32) (H : Heap) (locs : List Loc) (ls : Array Slot), kP + nP = 1662 → (AG kP fnw vK) → va_P G.1 vwCl [(h0, .inr (12, [.ref nw, .ref nk, .int mhasKept, .ref nt, .int mtaped, .ref nr, .int mrowMany, .int mroundOf, .int mroundFrom, .int mouts, .ref nm, .int mfromHour, .int mtoHour, .ref ns, .int mfrom, .int mto, .int msort, .int misFault, .int mdeep, .int mcoded, .int mlines, .ref nl, .ref nc, .ref nF, .ref np, .ref ntr, .ref nb, .int mbestCost, .ref nso, .ref nsi, .ref nit, .ref nsh, .ref nsf, .ref nss, .ref nrc, .int mtraced, .int mdealer, .int mnumber, .int mwhose, .int msize, .int misParted])), (nw, .inl (G.2.1, 1662, .inl fnw)), (nk, .inl (G.2.1, 1662, .inl vK))] H → va_D A [(h0, .inr (12, [.ref nw, .ref nk, .int mhasKept, .ref nt, .int mtaped, .ref nr, .int mrowMany, .int mroundOf, .int mroundFrom, .int mouts, .ref nm, .int mfromHour, .int mtoHour, .ref ns, .int mfrom, .int mto, .int msort, .int misFault, .int mdeep, .int mcoded, .int mlines, .ref nl, .ref nc, .ref nF, .ref np, .ref ntr, .ref nb, .int mbestCost, .ref nso, .ref nsi, .ref nit, .ref nsh, .ref nsf, .ref nss, .ref nrc, .int mtraced, .int mdealer, .int mnumber, .int mwhose, .int msize, .int misParted])), (nw, .inl (G.2.1, 1662, .inl fnw)), (nk, .inl (G.2.1, 1662, .inl vK))] → va_S A s.heap H locs → lv_has ls 2 [(1, .int (nI kP)), (0, .ref h0)] → W p l e (RM 1 0 0) s m ([.ref h0] : List Value).toArray below meth c H locs 0 0 (MQ below (QI G (fun (r : Int32) (u : (Nat → Int32)) => (r = 1) ∧ (NI u ∧ VI u ∧ SCX u (fnw 0) (fnw 1) (fnw 2) (fnw 3) (fnw 4) (fnw 5) (fnw 6) (fnw 8) (fnw 9) (fnw 10) (fnw 11) ∧ AG 1662 fnw u)) (fun u : (Nat → Int32) => [(h0, .inr (12, [.ref nw, .ref nk, .int 1, .ref nt, .int mtaped, .ref nr, .int mrowMany, .int mroundOf, .int mroundFrom, .int mouts, .ref nm, .int mfromHour, .int mtoHour, .ref ns, .int mfrom, .int mto, .int msort, .int misFault, .int mdeep, .int mcoded, .int mlines, .ref nl, .ref nc, .ref nF, .ref np, .ref ntr, .ref nb, .int mbestCost, .ref nso, .ref nsi, .ref nit, .ref nsh, .ref nsf, .ref nss, .ref nrc, .int mtraced, .int mdealer, .int mnumber, .int mwhose, .int msize, .int misParted])), (nw, .inl (G.2.1, 1662, .inl fnw)), (nk, .inl (G.2.1, 1662, .inl u))]) A) ([.ref h0] : List Value).toArray s 0 0 A) (F0 m 2 ls []) := by
    intro nP
    induction nP with
    | zero =>
      intro kP vK H locs ls hkP hag hP hD hS hl
      obtain rfl : 1662 = kP := by omega
      have hl : lv_has ls 2 [(1, .int 1662), (0, .ref h0)] := hl
      refine lv_iload_n hx hb dX12_keep_2 rfl (lv_at hl 0 rfl) ?_
      refine lv_sipush (v := 1662) hx hb dX12_keep_3 (by decide) ?_
      refine lv_icmp_ge (tgt := 27) hx hb dX12_keep_6 (by decide) (fun _ => ?_) (fun c9 => absurd (by decide) c9)
      refine lv_aload_n hx hb dX12_keep_27 rfl (lv_at hl 1 rfl) ?_
      refine lv_iconst (v := 1) hx hb dX12_keep_28 (by decide) ?_
      refine pf_X12_383 hC rfl hK hP hD hS 0 (ws' := [(h0, .inr (12, [.ref nw, .ref nk, .int 1, .ref nt, .int mtaped, .ref nr, .int mrowMany, .int mroundOf, .int mroundFrom, .int mouts, .ref nm, .int mfromHour, .int mtoHour, .ref ns, .int mfrom, .int mto, .int msort, .int misFault, .int mdeep, .int mcoded, .int mlines, .ref nl, .ref nc, .ref nF, .ref np, .ref ntr, .ref nb, .int mbestCost, .ref nso, .ref nsi, .ref nit, .ref nsh, .ref nsf, .ref nss, .ref nrc, .int mtraced, .int mdealer, .int mnumber, .int mwhose, .int msize, .int misParted])), (nw, .inl (G.2.1, 1662, .inl fnw)), (nk, .inl (G.2.1, 1662, .inl vK))]) rfl (Nat.le_of_ble_eq_true rfl) rfl (by decide +kernel) (by decide +kernel) dX12_keep_29 (fun H locs hP hD hS => ?_)
      refine lv_iconst (v := 1) hx hb dX12_keep_32 (by decide) ?_
      exact RI (v := 1) hC hP hD hS [0, 1, 2] vK rfl rfl (by decide) (⟨rfl, ⟨AG.NI hag hN, AG.VI hag hV, AG.SC hag, hag⟩⟩) rfl dX12_keep_33
    | succ nP ihP =>
      intro kP vK H locs ls hkP hag hP hD hS hl
      refine lv_iload_n hx hb dX12_keep_2 rfl (lv_at hl 0 rfl) ?_
      refine lv_sipush (v := 1662) hx hb dX12_keep_3 (by decide) ?_
      refine lv_icmp_ge (tgt := 27) hx hb dX12_keep_6 (by decide) (fun c9 => absurd c9 (nI_ge (a := kP) (b := 1662) (by omega) (by omega))) (fun _ => ?_)
      refine lv_aload_n hx hb dX12_keep_9 rfl (lv_at hl 1 rfl) ?_
      refine gf_X12_13 hC rfl hK hP 0 rfl rfl dX12_keep_10 ?_
      refine lv_iload_n hx hb dX12_keep_13 rfl (lv_at hl 0 rfl) ?_
      refine lv_aload_n hx hb dX12_keep_14 rfl (lv_at hl 1 rfl) ?_
      refine gf_X12_9 hC rfl hK hP 0 rfl rfl dX12_keep_15 ?_
      refine lv_iload_n hx hb dX12_keep_18 rfl (lv_at hl 0 rfl) ?_
      refine ald hC hK hP 1 rfl (vp_in_nI (by omega) (by omega)) (k := kP) (nI_clamp (by omega)) (v := fnw kP) rfl dX12_keep_19 ?_
      refine lv_topi (fun x6893 ex6893 => ?_)
      refine ast hC hK hP hD hS 2 (ws' := [(h0, .inr (12, [.ref nw, .ref nk, .int mhasKept, .ref nt, .int mtaped, .ref nr, .int mrowMany, .int mroundOf, .int mroundFrom, .int mouts, .ref nm, .int mfromHour, .int mtoHour, .ref ns, .int mfrom, .int mto, .int msort, .int misFault, .int mdeep, .int mcoded, .int mlines, .ref nl, .ref nc, .ref nF, .ref np, .ref ntr, .ref nb, .int mbestCost, .ref nso, .ref nsi, .ref nit, .ref nsh, .ref nsf, .ref nss, .ref nrc, .int mtraced, .int mdealer, .int mnumber, .int mwhose, .int msize, .int misParted])), (nw, .inl (G.2.1, 1662, .inl fnw)), (nk, .inl (G.2.1, 1662, .inl (upd vK kP x6893)))]) rfl (vp_in_nI (by omega) (by omega)) (k := kP) (nI_clamp (by omega)) (rfl) dX12_keep_20 (fun H locs hP hD hS => ?_)
      refine lv_iinc (v := nI (kP + 1)) (lv' := [(1, .int (nI (kP + 1))), (0, .ref h0)]) hx hb dX12_keep_21 hl (k := 0) rfl (nI_1 _) (by decide) rfl (fun ls hl => ?_)
      refine lv_goto (tgt := 2) hx hb dX12_keep_24 (by decide) ?_
      exact ihP (kP + 1) (upd vK kP x6893) _ _ _ (by omega) (by first | assumption | exact Or.inl rfl | exact Or.inr rfl | exact AG.zero | exact AG.next (by assumption) (by assumption)) hP hD hS (lv_sub hl [0, 1] rfl)
  exact keyP 1662 0 fnk _ _ _ (by omega) (by first | assumption | exact Or.inl rfl | exact Or.inr rfl | exact AG.zero | exact AG.next (by assumption) (by assumption)) hP hD hS (lv_sub hl [0, 1] rfl)
set_option maxHeartbeats 4000000 in
set_option maxRecDepth 100000 in
theorem w_again0 (l : Launch) (G : GG) (h0 : Nat) (nw : Nat) (nk : Nat) (nt : Nat) (mtaped : Int32) (nr : Nat) (mrowMany : Int32) (mroundOf : Int32) (mroundFrom : Int32) (mouts : Int32) (nm : Nat) (mfromHour : Int32) (mtoHour : Int32) (ns : Nat) (mfrom : Int32) (mto : Int32) (msort : Int32) (misFault : Int32) (mdeep : Int32) (mcoded : Int32) (mlines : Int32) (nl : Nat) (nc : Nat) (nF : Nat) (np : Nat) (ntr : Nat) (nb : Nat) (mbestCost : Int32) (nso : Nat) (nsi : Nat) (nit : Nat) (nsh : Nat) (nsf : Nat) (nss : Nat) (nrc : Nat) (mtraced : Int32) (mdealer : Int32) (mnumber : Int32) (mwhose : Int32) (msize : Int32) (misParted : Int32) : MP l G yX12_again cX12_again 2 (some .int) 1 [.ref h0] [(h0, .inr (12, [.ref nw, .ref nk, .int 0, .ref nt, .int mtaped, .ref nr, .int mrowMany, .int mroundOf, .int mroundFrom, .int mouts, .ref nm, .int mfromHour, .int mtoHour, .ref ns, .int mfrom, .int mto, .int msort, .int misFault, .int mdeep, .int mcoded, .int mlines, .ref nl, .ref nc, .ref nF, .ref np, .ref ntr, .ref nb, .int mbestCost, .ref nso, .ref nsi, .ref nit, .ref nsh, .ref nsf, .ref nss, .ref nrc, .int mtraced, .int mdealer, .int mnumber, .int mwhose, .int msize, .int misParted]))] (fun r : Int32 => r = (-3)) := by
  refine MP.start (by decide +kernel) (Nat.le_of_ble_eq_true rfl) ?_
  intro p e s m below meth c ls hC hK hP hD hl
  have hl : lv_has ls 2 [(0, .ref h0)] := hl
  obtain ⟨hx, hb, hr, hml, hB, hown, hlocks, hnm⟩ := id hC
  refine lv_aload_n hx hb dX12_again_0 rfl (lv_at hl 0 rfl) ?_
  refine gf_X12_383 hC rfl hK hP 0 rfl rfl dX12_again_1 ?_
  refine lv_if_ne (tgt := 10) hx hb dX12_again_4 (by decide) (fun c9 => absurd (by decide) c9) (fun _ => ?_)
  refine lv_bipush (v := (-3)) hx hb dX12_again_7 (by decide) ?_
  exact RP (v := (-3)) hC (rfl) rfl dX12_again_9
set_option maxHeartbeats 4000000 in
set_option maxRecDepth 100000 in
theorem w_again1 (l : Launch) (G : GG) (h0 : Nat) (nw : Nat) (nk : Nat) (nt : Nat) (mtaped : Int32) (nr : Nat) (mrowMany : Int32) (mroundOf : Int32) (mroundFrom : Int32) (mouts : Int32) (nm : Nat) (mfromHour : Int32) (mtoHour : Int32) (ns : Nat) (mfrom : Int32) (mto : Int32) (msort : Int32) (misFault : Int32) (mdeep : Int32) (mcoded : Int32) (mlines : Int32) (nl : Nat) (nc : Nat) (nF : Nat) (np : Nat) (ntr : Nat) (nb : Nat) (mbestCost : Int32) (nso : Nat) (nsi : Nat) (nit : Nat) (nsh : Nat) (nsf : Nat) (nss : Nat) (nrc : Nat) (mtraced : Int32) (mdealer : Int32) (mnumber : Int32) (mwhose : Int32) (msize : Int32) (misParted : Int32) (fnw : Nat → Int32) (fnk : Nat → Int32) (hN : NI fnw) (hV : VI fnw) (hNk : NI fnk) (hVk : VI fnk) : MI l G yX12_again cX12_again 2 (some .int) 1 0 0 [.ref h0] [(h0, .inr (12, [.ref nw, .ref nk, .int 1, .ref nt, .int mtaped, .ref nr, .int mrowMany, .int mroundOf, .int mroundFrom, .int mouts, .ref nm, .int mfromHour, .int mtoHour, .ref ns, .int mfrom, .int mto, .int msort, .int misFault, .int mdeep, .int mcoded, .int mlines, .ref nl, .ref nc, .ref nF, .ref np, .ref ntr, .ref nb, .int mbestCost, .ref nso, .ref nsi, .ref nit, .ref nsh, .ref nsf, .ref nss, .ref nrc, .int mtraced, .int mdealer, .int mnumber, .int mwhose, .int msize, .int misParted])), (nw, .inl (G.2.1, 1662, .inl fnw)), (nk, .inl (G.2.1, 1662, .inl fnk))] (fun (r : Int32) (u : (Nat → Int32)) => (r = 1) ∧ (NI u ∧ VI u ∧ SCX u (fnk 0) (fnk 1) (fnk 2) (fnk 3) (fnk 4) (fnk 5) (fnk 6) (fnk 8) (fnk 9) (fnk 10) (fnk 11) ∧ AG 1662 fnk u)) (fun u : (Nat → Int32) => [(h0, .inr (12, [.ref nw, .ref nk, .int 1, .ref nt, .int mtaped, .ref nr, .int mrowMany, .int mroundOf, .int mroundFrom, .int mouts, .ref nm, .int mfromHour, .int mtoHour, .ref ns, .int mfrom, .int mto, .int msort, .int misFault, .int mdeep, .int mcoded, .int mlines, .ref nl, .ref nc, .ref nF, .ref np, .ref ntr, .ref nb, .int mbestCost, .ref nso, .ref nsi, .ref nit, .ref nsh, .ref nsf, .ref nss, .ref nrc, .int mtraced, .int mdealer, .int mnumber, .int mwhose, .int msize, .int misParted])), (nw, .inl (G.2.1, 1662, .inl u)), (nk, .inl (G.2.1, 1662, .inl fnk))]) := by
  refine MI.start (by decide +kernel) (Nat.le_of_ble_eq_true rfl) ?_
  intro p e s m below meth c A ls hC hK hP hD hS hA hl
  have hl : lv_has ls 2 [(0, .ref h0)] := hl
  obtain ⟨hx, hb, hr, hml, hB, hown, hlocks, hnm⟩ := id hC
  refine lv_aload_n hx hb dX12_again_0 rfl (lv_at hl 0 rfl) ?_
  refine gf_X12_383 hC rfl hK hP 0 rfl rfl dX12_again_1 ?_
  refine lv_if_ne (tgt := 10) hx hb dX12_again_4 (by decide) (fun _ => ?_) (fun c9 => absurd c9 (by decide))
  refine lv_iconst (v := 0) hx hb dX12_again_10 (by decide) ?_
  refine lv_istore_n (lv' := [(1, .int 0), (0, .ref h0)]) hx hb dX12_again_11 rfl hl (by decide) rfl (fun ls hl => ?_)
  have keyP : ∀ (nP kP : Nat) (vK : Nat → Int32) (H : Heap) (locs : List Loc) (ls : Array Slot), kP + nP = 1662 → (AG kP fnk vK) → va_P G.1 vwCl [(h0, .inr (12, [.ref nw, .ref nk, .int 1, .ref nt, .int mtaped, .ref nr, .int mrowMany, .int mroundOf, .int mroundFrom, .int mouts, .ref nm, .int mfromHour, .int mtoHour, .ref ns, .int mfrom, .int mto, .int msort, .int misFault, .int mdeep, .int mcoded, .int mlines, .ref nl, .ref nc, .ref nF, .ref np, .ref ntr, .ref nb, .int mbestCost, .ref nso, .ref nsi, .ref nit, .ref nsh, .ref nsf, .ref nss, .ref nrc, .int mtraced, .int mdealer, .int mnumber, .int mwhose, .int msize, .int misParted])), (nw, .inl (G.2.1, 1662, .inl vK)), (nk, .inl (G.2.1, 1662, .inl fnk))] H → va_D A [(h0, .inr (12, [.ref nw, .ref nk, .int 1, .ref nt, .int mtaped, .ref nr, .int mrowMany, .int mroundOf, .int mroundFrom, .int mouts, .ref nm, .int mfromHour, .int mtoHour, .ref ns, .int mfrom, .int mto, .int msort, .int misFault, .int mdeep, .int mcoded, .int mlines, .ref nl, .ref nc, .ref nF, .ref np, .ref ntr, .ref nb, .int mbestCost, .ref nso, .ref nsi, .ref nit, .ref nsh, .ref nsf, .ref nss, .ref nrc, .int mtraced, .int mdealer, .int mnumber, .int mwhose, .int msize, .int misParted])), (nw, .inl (G.2.1, 1662, .inl vK)), (nk, .inl (G.2.1, 1662, .inl fnk))] → va_S A s.heap H locs → lv_has ls 2 [(1, .int (nI kP)), (0, .ref h0)] → W p l e (RM 1 0 0) s m ([.ref h0] : List Value).toArray below meth c H locs 0 0 (MQ below (QI G (fun (r : Int32) (u : (Nat → Int32)) => (r = 1) ∧ (NI u ∧ VI u ∧ SCX u (fnk 0) (fnk 1) (fnk 2) (fnk 3) (fnk 4) (fnk 5) (fnk 6) (fnk 8) (fnk 9) (fnk 10) (fnk 11) ∧ AG 1662 fnk u)) (fun u : (Nat → Int32) => [(h0, .inr (12, [.ref nw, .ref nk, .int 1, .ref nt, .int mtaped, .ref nr, .int mrowMany, .int mroundOf, .int mroundFrom, .int mouts, .ref nm, .int mfromHour, .int mtoHour, .ref ns, .int mfrom, .int mto, .int msort, .int misFault, .int mdeep, .int mcoded, .int mlines, .ref nl, .ref nc, .ref nF, .ref np, .ref ntr, .ref nb, .int mbestCost, .ref nso, .ref nsi, .ref nit, .ref nsh, .ref nsf, .ref nss, .ref nrc, .int mtraced, .int mdealer, .int mnumber, .int mwhose, .int msize, .int misParted])), (nw, .inl (G.2.1, 1662, .inl u)), (nk, .inl (G.2.1, 1662, .inl fnk))]) A) ([.ref h0] : List Value).toArray s 0 0 A) (F0 m 12 ls []) := by
    intro nP
    induction nP with
    | zero =>
      intro kP vK H locs ls hkP hag hP hD hS hl
      obtain rfl : 1662 = kP := by omega
      have hl : lv_has ls 2 [(1, .int 1662), (0, .ref h0)] := hl
      refine lv_iload_n hx hb dX12_again_12 rfl (lv_at hl 0 rfl) ?_
      refine lv_sipush (v := 1662) hx hb dX12_again_13 (by decide) ?_
      refine lv_icmp_ge (tgt := 37) hx hb dX12_again_16 (by decide) (fun _ => ?_) (fun c9 => absurd (by decide) c9)
      refine lv_iconst (v := 1) hx hb dX12_again_37 (by decide) ?_
      exact RI (v := 1) hC hP hD hS [0, 1, 2] vK rfl rfl (by decide) (⟨rfl, ⟨AG.NI hag hNk, AG.VI hag hVk, AG.SC hag, hag⟩⟩) rfl dX12_again_38
    | succ nP ihP =>
      intro kP vK H locs ls hkP hag hP hD hS hl
      refine lv_iload_n hx hb dX12_again_12 rfl (lv_at hl 0 rfl) ?_
      refine lv_sipush (v := 1662) hx hb dX12_again_13 (by decide) ?_
      refine lv_icmp_ge (tgt := 37) hx hb dX12_again_16 (by decide) (fun c9 => absurd c9 (nI_ge (a := kP) (b := 1662) (by omega) (by omega))) (fun _ => ?_)
      refine lv_aload_n hx hb dX12_again_19 rfl (lv_at hl 1 rfl) ?_
      refine gf_X12_9 hC rfl hK hP 0 rfl rfl dX12_again_20 ?_
      refine lv_iload_n hx hb dX12_again_23 rfl (lv_at hl 0 rfl) ?_
      refine lv_aload_n hx hb dX12_again_24 rfl (lv_at hl 1 rfl) ?_
      refine gf_X12_13 hC rfl hK hP 0 rfl rfl dX12_again_25 ?_
      refine lv_iload_n hx hb dX12_again_28 rfl (lv_at hl 0 rfl) ?_
      refine ald hC hK hP 2 rfl (vp_in_nI (by omega) (by omega)) (k := kP) (nI_clamp (by omega)) (v := fnk kP) rfl dX12_again_29 ?_
      refine lv_topi (fun x6894 ex6894 => ?_)
      refine ast hC hK hP hD hS 1 (ws' := [(h0, .inr (12, [.ref nw, .ref nk, .int 1, .ref nt, .int mtaped, .ref nr, .int mrowMany, .int mroundOf, .int mroundFrom, .int mouts, .ref nm, .int mfromHour, .int mtoHour, .ref ns, .int mfrom, .int mto, .int msort, .int misFault, .int mdeep, .int mcoded, .int mlines, .ref nl, .ref nc, .ref nF, .ref np, .ref ntr, .ref nb, .int mbestCost, .ref nso, .ref nsi, .ref nit, .ref nsh, .ref nsf, .ref nss, .ref nrc, .int mtraced, .int mdealer, .int mnumber, .int mwhose, .int msize, .int misParted])), (nw, .inl (G.2.1, 1662, .inl (upd vK kP x6894))), (nk, .inl (G.2.1, 1662, .inl fnk))]) rfl (vp_in_nI (by omega) (by omega)) (k := kP) (nI_clamp (by omega)) (rfl) dX12_again_30 (fun H locs hP hD hS => ?_)
      refine lv_iinc (v := nI (kP + 1)) (lv' := [(1, .int (nI (kP + 1))), (0, .ref h0)]) hx hb dX12_again_31 hl (k := 0) rfl (nI_1 _) (by decide) rfl (fun ls hl => ?_)
      refine lv_goto (tgt := 12) hx hb dX12_again_34 (by decide) ?_
      exact ihP (kP + 1) (upd vK kP x6894) _ _ _ (by omega) (by first | assumption | exact Or.inl rfl | exact Or.inr rfl | exact AG.zero | exact AG.next (by assumption) (by assumption)) hP hD hS (lv_sub hl [0, 1] rfl)
  exact keyP 1662 0 fnw _ _ _ (by omega) (by first | assumption | exact Or.inl rfl | exact Or.inr rfl | exact AG.zero | exact AG.next (by assumption) (by assumption)) hP hD hS (lv_sub hl [0, 1] rfl)
