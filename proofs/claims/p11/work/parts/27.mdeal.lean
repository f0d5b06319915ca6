section WR
variable {p : Program} {l : Launch} {e : Env} {R : Room} {s : State} {m : MethodId} {args : Array Value} {below : List Frame} {meth : Method} {c : Code} {H : Heap} {locs : List Loc} {cells slots : Nat} {Q : State → Prop}
variable {pc : Nat} {ls : Array Slot} {rest : List Value} {G : GG} {ws : va_W} {A : Nat → Prop} {y0 : MethodName} {b0 : ByteArray} {mL0 : Nat} {rt0 : Option FieldType} {a : Nat} {H0 : Heap}
end WR
/-- what a kind tells of its shelf -/
def KO1 (x : Int32) (y : Int32) (k : Nat) (B : Nat) : Prop := x = nI k ∧ ∃ j, j < B ∧ y = nI j
theorem KO1.mk {x x2 y y2 : Int32} {k B kk : Nat} (hB : kk ≤ B) (hk : kk < 2 ^ 31) (ex : x2 = x) (ey : y2 = y) (c : x2 = nI k) (h : Hs y2 kk) : KO1 x y k B := by
  obtain ⟨j, hj, e⟩ := Hs_nat hk h
  exact ⟨ex.symm.trans c, j, by omega, ey.symm.trans e⟩
/-- the first n alike -/
def AG (n : Nat) (f g : Nat → Int32) : Prop := ∀ i, i < n → g i = f i
theorem AG.zero {f g : Nat → Int32} : AG 0 f g := fun i h => absurd h (Nat.not_lt_zero i)
theorem AG.next {n : Nat} {f g : Nat → Int32} {x : Int32} (h : AG n f g) (hx : x = f n) : AG (n + 1) f (upd g n x) := by
  intro i hi
  unfold upd
  by_cases c : i = n
  · rw [if_pos c, hx, c]
  · rw [if_neg c]; exact h i (by omega)
theorem AG.SC {f g : Nat → Int32} (h : AG 1662 f g) : SCX g (f 0) (f 1) (f 2) (f 3) (f 4) (f 5) (f 6) (f 8) (f 9) (f 10) (f 11) := SCX.rf.ag fun i h1 _ => h i (by omega)
theorem AG.NI {f g : Nat → Int32} (h : AG 1662 f g) (hN : NI f) : NI g := by
  intro i
  by_cases c : i < 1662
  · rw [h i c]; exact hN i
  · rw [bnd_end (by omega)]
    exact ⟨ti_lo _, ti_hi _⟩
theorem AG.VI {f g : Nat → Int32} (h : AG 1662 f g) (hV : VI f) : VI g := by
  intro v hv
  exact VOK.ext (fun j hj => (h _ (by omega)).symm) (hV v hv)
section WR
variable {p : Program} {l : Launch} {e : Env} {R : Room} {s : State} {m : MethodId} {args : Array Value} {below : List Frame} {meth : Method} {c : Code} {H : Heap} {locs : List Loc} {cells slots : Nat} {Q : State → Prop}
variable {pc : Nat} {ls : Array Slot} {rest : List Value} {G : GG} {ws : va_W} {A : Nat → Prop} {y0 : MethodName} {b0 : ByteArray} {mL0 : Nat} {rt0 : Option FieldType} {a : Nat} {H0 : Heap}
theorem dX12_kindOn_0 : decode cX12_kindOn 0 = .ok (.aload_n 0, 1) := by decide +kernel
theorem dX12_kindOn_1 : decode cX12_kindOn 1 = .ok (.getfield 75, 3) := by decide +kernel
theorem dX12_kindOn_4 : decode cX12_kindOn 4 = .ok (.iload_n 1, 1) := by decide +kernel
theorem dX12_kindOn_5 : decode cX12_kindOn 5 = .ok (.iaload, 1) := by decide +kernel
theorem dX12_kindOn_6 : decode cX12_kindOn 6 = .ok (.istore_n 2, 1) := by decide +kernel
theorem dX12_kindOn_7 : decode cX12_kindOn 7 = .ok (.aload_n 0, 1) := by decide +kernel
theorem dX12_kindOn_8 : decode cX12_kindOn 8 = .ok (.getfield 72, 3) := by decide +kernel
theorem dX12_kindOn_11 : decode cX12_kindOn 11 = .ok (.iload_n 1, 1) := by decide +kernel
theorem dX12_kindOn_12 : decode cX12_kindOn 12 = .ok (.iaload, 1) := by decide +kernel
theorem dX12_kindOn_13 : decode cX12_kindOn 13 = .ok (.tableswitch 145 1 3 #[27, 98, 128], 27) := by decide +kernel
theorem dX12_kindOn_40 : decode cX12_kindOn 40 = .ok (.aload_n 0, 1) := by decide +kernel
theorem dX12_kindOn_41 : decode cX12_kindOn 41 = .ok (.iload_n 2, 1) := by decide +kernel
theorem dX12_kindOn_42 : decode cX12_kindOn 42 = .ok (.iconst 5, 1) := by decide +kernel
theorem dX12_kindOn_43 : decode cX12_kindOn 43 = .ok (.invokevirtual 120, 3) := by decide +kernel
theorem dX12_kindOn_46 : decode cX12_kindOn 46 = .ok (.ifCond .eq 27, 3) := by decide +kernel
theorem dX12_kindOn_49 : decode cX12_kindOn 49 = .ok (.aload_n 0, 1) := by decide +kernel
theorem dX12_kindOn_50 : decode cX12_kindOn 50 = .ok (.iload_n 2, 1) := by decide +kernel
theorem dX12_kindOn_51 : decode cX12_kindOn 51 = .ok (.iconst 1, 1) := by decide +kernel
theorem dX12_kindOn_52 : decode cX12_kindOn 52 = .ok (.invokevirtual 88, 3) := by decide +kernel
theorem dX12_kindOn_55 : decode cX12_kindOn 55 = .ok (.iconst 1, 1) := by decide +kernel
theorem dX12_kindOn_56 : decode cX12_kindOn 56 = .ok (.aload_n 0, 1) := by decide +kernel
theorem dX12_kindOn_57 : decode cX12_kindOn 57 = .ok (.iload_n 2, 1) := by decide +kernel
theorem dX12_kindOn_58 : decode cX12_kindOn 58 = .ok (.iconst 0, 1) := by decide +kernel
theorem dX12_kindOn_59 : decode cX12_kindOn 59 = .ok (.invokevirtual 88, 3) := by decide +kernel
theorem dX12_kindOn_62 : decode cX12_kindOn 62 = .ok (.ishl, 1) := by decide +kernel
theorem dX12_kindOn_63 : decode cX12_kindOn 63 = .ok (.iconst (-1), 1) := by decide +kernel
theorem dX12_kindOn_64 : decode cX12_kindOn 64 = .ok (.ixor, 1) := by decide +kernel
theorem dX12_kindOn_65 : decode cX12_kindOn 65 = .ok (.iand, 1) := by decide +kernel
theorem dX12_kindOn_66 : decode cX12_kindOn 66 = .ok (.ifCond .eq 7, 3) := by decide +kernel
theorem dX12_kindOn_73 : decode cX12_kindOn 73 = .ok (.iconst 0, 1) := by decide +kernel
theorem dX12_kindOn_74 : decode cX12_kindOn 74 = .ok (.istore_n 3, 1) := by decide +kernel
theorem dX12_kindOn_75 : decode cX12_kindOn 75 = .ok (.aload_n 0, 1) := by decide +kernel
theorem dX12_kindOn_76 : decode cX12_kindOn 76 = .ok (.iload_n 2, 1) := by decide +kernel
theorem dX12_kindOn_77 : decode cX12_kindOn 77 = .ok (.iconst 5, 1) := by decide +kernel
theorem dX12_kindOn_78 : decode cX12_kindOn 78 = .ok (.invokevirtual 120, 3) := by decide +kernel
theorem dX12_kindOn_81 : decode cX12_kindOn 81 = .ok (.ifCond .ne 7, 3) := by decide +kernel
theorem dX12_kindOn_88 : decode cX12_kindOn 88 = .ok (.iload_n 3, 1) := by decide +kernel
theorem dX12_kindOn_89 : decode cX12_kindOn 89 = .ok (.ifCond .ne 7, 3) := by decide +kernel
theorem dX12_kindOn_92 : decode cX12_kindOn 92 = .ok (.iconst 2, 1) := by decide +kernel
theorem dX12_kindOn_93 : decode cX12_kindOn 93 = .ok (.goto 17, 3) := by decide +kernel
theorem dX12_kindOn_110 : decode cX12_kindOn 110 = .ok (.ireturn, 1) := by decide +kernel
theorem dX12_kindOn_69 : decode cX12_kindOn 69 = .ok (.iconst 1, 1) := by decide +kernel
theorem dX12_kindOn_70 : decode cX12_kindOn 70 = .ok (.goto 4, 3) := by decide +kernel
theorem dX12_kindOn_96 : decode cX12_kindOn 96 = .ok (.aload_n 0, 1) := by decide +kernel
theorem dX12_kindOn_97 : decode cX12_kindOn 97 = .ok (.iload_n 2, 1) := by decide +kernel
theorem dX12_kindOn_98 : decode cX12_kindOn 98 = .ok (.iconst 3, 1) := by decide +kernel
theorem dX12_kindOn_99 : decode cX12_kindOn 99 = .ok (.invokevirtual 88, 3) := by decide +kernel
theorem dX12_kindOn_102 : decode cX12_kindOn 102 = .ok (.ifCond .le 7, 3) := by decide +kernel
theorem dX12_kindOn_109 : decode cX12_kindOn 109 = .ok (.iconst 1, 1) := by decide +kernel
theorem dX12_kindOn_105 : decode cX12_kindOn 105 = .ok (.iconst 3, 1) := by decide +kernel
theorem dX12_kindOn_106 : decode cX12_kindOn 106 = .ok (.goto 4, 3) := by decide +kernel
theorem dX12_kindOn_84 : decode cX12_kindOn 84 = .ok (.iconst (-1), 1) := by decide +kernel
theorem dX12_kindOn_85 : decode cX12_kindOn 85 = .ok (.goto 25, 3) := by decide +kernel
theorem dX12_kindOn_111 : decode cX12_kindOn 111 = .ok (.aload_n 0, 1) := by decide +kernel
theorem dX12_kindOn_112 : decode cX12_kindOn 112 = .ok (.iload_n 2, 1) := by decide +kernel
theorem dX12_kindOn_113 : decode cX12_kindOn 113 = .ok (.bipush 8, 2) := by decide +kernel
theorem dX12_kindOn_115 : decode cX12_kindOn 115 = .ok (.invokevirtual 120, 3) := by decide +kernel
theorem dX12_kindOn_118 : decode cX12_kindOn 118 = .ok (.ifCond .ne 7, 3) := by decide +kernel
theorem dX12_kindOn_125 : decode cX12_kindOn 125 = .ok (.aload_n 0, 1) := by decide +kernel
theorem dX12_kindOn_126 : decode cX12_kindOn 126 = .ok (.iload_n 2, 1) := by decide +kernel
theorem dX12_kindOn_127 : decode cX12_kindOn 127 = .ok (.bipush 6, 2) := by decide +kernel
theorem dX12_kindOn_129 : decode cX12_kindOn 129 = .ok (.invokevirtual 114, 3) := by decide +kernel
theorem dX12_kindOn_132 : decode cX12_kindOn 132 = .ok (.ifCond .ge 7, 3) := by decide +kernel
theorem dX12_kindOn_139 : decode cX12_kindOn 139 = .ok (.iconst 4, 1) := by decide +kernel
theorem dX12_kindOn_140 : decode cX12_kindOn 140 = .ok (.ireturn, 1) := by decide +kernel
theorem dX12_kindOn_135 : decode cX12_kindOn 135 = .ok (.iconst 5, 1) := by decide +kernel
theorem dX12_kindOn_136 : decode cX12_kindOn 136 = .ok (.goto 4, 3) := by decide +kernel
theorem dX12_kindOn_121 : decode cX12_kindOn 121 = .ok (.iconst (-1), 1) := by decide +kernel
theorem dX12_kindOn_122 : decode cX12_kindOn 122 = .ok (.goto 18, 3) := by decide +kernel
theorem dX12_kindOn_141 : decode cX12_kindOn 141 = .ok (.aload_n 0, 1) := by decide +kernel
theorem dX12_kindOn_142 : decode cX12_kindOn 142 = .ok (.iload_n 2, 1) := by decide +kernel
theorem dX12_kindOn_143 : decode cX12_kindOn 143 = .ok (.bipush 9, 2) := by decide +kernel
theorem dX12_kindOn_145 : decode cX12_kindOn 145 = .ok (.invokevirtual 120, 3) := by decide +kernel
theorem dX12_kindOn_148 : decode cX12_kindOn 148 = .ok (.ifCond .eq 8, 3) := by decide +kernel
theorem dX12_kindOn_151 : decode cX12_kindOn 151 = .ok (.bipush 6, 2) := by decide +kernel
theorem dX12_kindOn_153 : decode cX12_kindOn 153 = .ok (.goto 4, 3) := by decide +kernel
theorem dX12_kindOn_157 : decode cX12_kindOn 157 = .ok (.ireturn, 1) := by decide +kernel
theorem dX12_kindOn_156 : decode cX12_kindOn 156 = .ok (.iconst (-1), 1) := by decide +kernel
theorem sw_1_3 {x : Int32} : ¬ x = 1 → ¬ x = 2 → ¬ x = 3 →  (x.toInt < 1 ∨ 3 < x.toInt) := by
  intros
  simp only [← Int32.toInt_inj] at *
  have hk : ∀ k : Int, x.toInt = k → x.toInt = k := fun _ h => h
  have k1 : (1 : Int32).toInt = 1 := by decide
  have k2 : (2 : Int32).toInt = 2 := by decide
  have k3 : (3 : Int32).toInt = 3 := by decide
  omega
theorem dX12_kindOn_158 : decode cX12_kindOn 158 = .ok (.iconst (-1), 1) := by decide +kernel
theorem dX12_kindOn_159 : decode cX12_kindOn 159 = .ok (.ireturn, 1) := by decide +kernel
theorem dX12_above_0 : decode cX12_above 0 = .ok (.iload_n 0, 1) := by decide +kernel
theorem dX12_above_1 : decode cX12_above 1 = .ok (.iconst 3, 1) := by decide +kernel
theorem dX12_above_2 : decode cX12_above 2 = .ok (.if_icmp .ne 7, 3) := by decide +kernel
theorem dX12_above_9 : decode cX12_above 9 = .ok (.iload_n 0, 1) := by decide +kernel
theorem dX12_above_10 : decode cX12_above 10 = .ok (.iconst 5, 1) := by decide +kernel
theorem dX12_above_11 : decode cX12_above 11 = .ok (.if_icmp .ne 7, 3) := by decide +kernel
theorem dX12_above_18 : decode cX12_above 18 = .ok (.iload_n 0, 1) := by decide +kernel
theorem dX12_above_19 : decode cX12_above 19 = .ok (.ifCond .ne 7, 3) := by decide +kernel
theorem dX12_above_22 : decode cX12_above 22 = .ok (.iconst (-1), 1) := by decide +kernel
theorem dX12_above_23 : decode cX12_above 23 = .ok (.goto 4, 3) := by decide +kernel
theorem dX12_above_27 : decode cX12_above 27 = .ok (.ireturn, 1) := by decide +kernel
theorem dX12_above_26 : decode cX12_above 26 = .ok (.iconst 0, 1) := by decide +kernel
theorem dX12_above_5 : decode cX12_above 5 = .ok (.iconst 1, 1) := by decide +kernel
theorem dX12_above_6 : decode cX12_above 6 = .ok (.goto 21, 3) := by decide +kernel
theorem dX12_above_14 : decode cX12_above 14 = .ok (.iconst 4, 1) := by decide +kernel
theorem dX12_above_15 : decode cX12_above 15 = .ok (.goto 12, 3) := by decide +kernel
theorem dX12_hasOwn_0 : decode cX12_hasOwn 0 = .ok (.iload_n 0, 1) := by decide +kernel
theorem dX12_hasOwn_1 : decode cX12_hasOwn 1 = .ok (.tableswitch 94 0 5 #[39, 41, 52, 63, 79, 79], 39) := by decide +kernel
theorem dX12_hasOwn_40 : decode cX12_hasOwn 40 = .ok (.iconst 1, 1) := by decide +kernel
theorem dX12_hasOwn_41 : decode cX12_hasOwn 41 = .ok (.ireturn, 1) := by decide +kernel
theorem dX12_hasOwn_42 : decode cX12_hasOwn 42 = .ok (.iload_n 1, 1) := by decide +kernel
theorem dX12_hasOwn_43 : decode cX12_hasOwn 43 = .ok (.iconst 1, 1) := by decide +kernel
theorem dX12_hasOwn_44 : decode cX12_hasOwn 44 = .ok (.if_icmp .ne 7, 3) := by decide +kernel
theorem dX12_hasOwn_51 : decode cX12_hasOwn 51 = .ok (.iconst 0, 1) := by decide +kernel
theorem dX12_hasOwn_52 : decode cX12_hasOwn 52 = .ok (.ireturn, 1) := by decide +kernel
theorem dX12_hasOwn_47 : decode cX12_hasOwn 47 = .ok (.iconst 1, 1) := by decide +kernel
theorem dX12_hasOwn_48 : decode cX12_hasOwn 48 = .ok (.goto 4, 3) := by decide +kernel
theorem dX12_hasOwn_53 : decode cX12_hasOwn 53 = .ok (.iload_n 1, 1) := by decide +kernel
theorem dX12_hasOwn_54 : decode cX12_hasOwn 54 = .ok (.iconst 2, 1) := by decide +kernel
theorem dX12_hasOwn_55 : decode cX12_hasOwn 55 = .ok (.if_icmp .ne 7, 3) := by decide +kernel
theorem dX12_hasOwn_62 : decode cX12_hasOwn 62 = .ok (.iconst 0, 1) := by decide +kernel
theorem dX12_hasOwn_63 : decode cX12_hasOwn 63 = .ok (.ireturn, 1) := by decide +kernel
theorem dX12_hasOwn_58 : decode cX12_hasOwn 58 = .ok (.iconst 1, 1) := by decide +kernel
theorem dX12_hasOwn_59 : decode cX12_hasOwn 59 = .ok (.goto 4, 3) := by decide +kernel
theorem dX12_hasOwn_64 : decode cX12_hasOwn 64 = .ok (.iload_n 1, 1) := by decide +kernel
theorem dX12_hasOwn_65 : decode cX12_hasOwn 65 = .ok (.iconst 1, 1) := by decide +kernel
theorem dX12_hasOwn_66 : decode cX12_hasOwn 66 = .ok (.if_icmp .eq 8, 3) := by decide +kernel
theorem dX12_hasOwn_69 : decode cX12_hasOwn 69 = .ok (.iload_n 1, 1) := by decide +kernel
theorem dX12_hasOwn_70 : decode cX12_hasOwn 70 = .ok (.iconst 3, 1) := by decide +kernel
theorem dX12_hasOwn_71 : decode cX12_hasOwn 71 = .ok (.if_icmp .ne 7, 3) := by decide +kernel
theorem dX12_hasOwn_78 : decode cX12_hasOwn 78 = .ok (.iconst 0, 1) := by decide +kernel
theorem dX12_hasOwn_79 : decode cX12_hasOwn 79 = .ok (.ireturn, 1) := by decide +kernel
theorem dX12_hasOwn_74 : decode cX12_hasOwn 74 = .ok (.iconst 1, 1) := by decide +kernel
theorem dX12_hasOwn_75 : decode cX12_hasOwn 75 = .ok (.goto 4, 3) := by decide +kernel
theorem dX12_hasOwn_80 : decode cX12_hasOwn 80 = .ok (.iload_n 1, 1) := by decide +kernel
theorem dX12_hasOwn_81 : decode cX12_hasOwn 81 = .ok (.ifCond .eq 8, 3) := by decide +kernel
theorem dX12_hasOwn_89 : decode cX12_hasOwn 89 = .ok (.iconst 1, 1) := by decide +kernel
theorem dX12_hasOwn_90 : decode cX12_hasOwn 90 = .ok (.goto 4, 3) := by decide +kernel
theorem dX12_hasOwn_94 : decode cX12_hasOwn 94 = .ok (.ireturn, 1) := by decide +kernel
theorem dX12_hasOwn_84 : decode cX12_hasOwn 84 = .ok (.iload_n 1, 1) := by decide +kernel
theorem dX12_hasOwn_85 : decode cX12_hasOwn 85 = .ok (.iconst 2, 1) := by decide +kernel
theorem dX12_hasOwn_86 : decode cX12_hasOwn 86 = .ok (.if_icmp .ne 7, 3) := by decide +kernel
theorem dX12_hasOwn_93 : decode cX12_hasOwn 93 = .ok (.iconst 0, 1) := by decide +kernel
theorem dX12_hasOwn_95 : decode cX12_hasOwn 95 = .ok (.iload_n 1, 1) := by decide +kernel
theorem dX12_hasOwn_96 : decode cX12_hasOwn 96 = .ok (.iconst 3, 1) := by decide +kernel
theorem dX12_hasOwn_97 : decode cX12_hasOwn 97 = .ok (.if_icmp .ne 7, 3) := by decide +kernel
theorem dX12_hasOwn_104 : decode cX12_hasOwn 104 = .ok (.iconst 0, 1) := by decide +kernel
theorem dX12_hasOwn_105 : decode cX12_hasOwn 105 = .ok (.ireturn, 1) := by decide +kernel
theorem dX12_hasOwn_100 : decode cX12_hasOwn 100 = .ok (.iconst 1, 1) := by decide +kernel
theorem dX12_hasOwn_101 : decode cX12_hasOwn 101 = .ok (.goto 4, 3) := by decide +kernel
theorem dX12_taken_0 : decode cX12_taken 0 = .ok (.iload_n 1, 1) := by decide +kernel
theorem dX12_taken_1 : decode cX12_taken 1 = .ok (.invokestatic 336, 3) := by decide +kernel
theorem dX12_taken_4 : decode cX12_taken 4 = .ok (.ifCond .eq 24, 3) := by decide +kernel
theorem dX12_taken_7 : decode cX12_taken 7 = .ok (.iload_n 2, 1) := by decide +kernel
theorem dX12_taken_8 : decode cX12_taken 8 = .ok (.iconst 0, 1) := by decide +kernel
theorem dX12_taken_9 : decode cX12_taken 9 = .ok (.bipush 6, 2) := by decide +kernel
theorem dX12_taken_11 : decode cX12_taken 11 = .ok (.invokestatic 84, 3) := by decide +kernel
theorem dX12_taken_14 : decode cX12_taken 14 = .ok (.ifCond .ne 16, 3) := by decide +kernel
theorem dX12_taken_30 : decode cX12_taken 30 = .ok (.aload_n 0, 1) := by decide +kernel
theorem dX12_taken_31 : decode cX12_taken 31 = .ok (.getfield 72, 3) := by decide +kernel
theorem dX12_taken_34 : decode cX12_taken 34 = .ok (.iload_n 1, 1) := by decide +kernel
theorem dX12_taken_35 : decode cX12_taken 35 = .ok (.iaload, 1) := by decide +kernel
theorem dX12_taken_36 : decode cX12_taken 36 = .ok (.iconst 4, 1) := by decide +kernel
theorem dX12_taken_37 : decode cX12_taken 37 = .ok (.if_icmp .ne 28, 3) := by decide +kernel
theorem dX12_taken_65 : decode cX12_taken 65 = .ok (.aload_n 0, 1) := by decide +kernel
theorem dX12_taken_66 : decode cX12_taken 66 = .ok (.iload_n 1, 1) := by decide +kernel
theorem dX12_taken_67 : decode cX12_taken 67 = .ok (.invokevirtual 345, 3) := by decide +kernel
theorem m_1309 : Cond.code yX12_kindOn cX12_kindOn 4 (some .int) ∈ BW := List.mem_of_getElem? (i := 1309) (by decide +kernel)
theorem m_1306 : Cond.methodLink RX12 345 yX12_kindOn ∈ BW := List.mem_of_getElem? (i := 1306) (by decide +kernel)
theorem m_1307 : Cond.instanceMethod yX12_kindOn ∈ BW := List.mem_of_getElem? (i := 1307) (by decide +kernel)
theorem m_1308 : Cond.selects RX12 yX12_kindOn yX12_kindOn ∈ BW := List.mem_of_getElem? (i := 1308) (by decide +kernel)
theorem si_X12_345 : SV RX12 RX12 345 yX12_kindOn cX12_kindOn 4 (some .int) 1 := ⟨⟨m_1306, m_1307, m_1308, m_5, m_1309⟩, rfl, by decide +kernel, by decide +kernel, by decide +kernel⟩
theorem dX12_taken_70 : decode cX12_taken 70 = .ok (.istore_n 3, 1) := by decide +kernel
theorem dX12_taken_71 : decode cX12_taken 71 = .ok (.iload_n 3, 1) := by decide +kernel
theorem dX12_taken_72 : decode cX12_taken 72 = .ok (.ifCond .ge 6, 3) := by decide +kernel
theorem dX12_taken_75 : decode cX12_taken 75 = .ok (.bipush (-11), 2) := by decide +kernel
theorem dX12_taken_77 : decode cX12_taken 77 = .ok (.ireturn, 1) := by decide +kernel
theorem dX12_taken_78 : decode cX12_taken 78 = .ok (.iload_n 3, 1) := by decide +kernel
theorem dX12_taken_79 : decode cX12_taken 79 = .ok (.ifCond .lt 16, 3) := by decide +kernel
theorem dX12_taken_82 : decode cX12_taken 82 = .ok (.iload_n 3, 1) := by decide +kernel
theorem dX12_taken_83 : decode cX12_taken 83 = .ok (.iload_n 2, 1) := by decide +kernel
theorem dX12_taken_84 : decode cX12_taken 84 = .ok (.if_icmp .eq 11, 3) := by decide +kernel
theorem dX12_taken_95 : decode cX12_taken 95 = .ok (.iload_n 3, 1) := by decide +kernel
theorem dX12_taken_96 : decode cX12_taken 96 = .ok (.iload_n 2, 1) := by decide +kernel
theorem dX12_taken_97 : decode cX12_taken 97 = .ok (.if_icmp .ne 12, 3) := by decide +kernel
theorem dX12_taken_100 : decode cX12_taken 100 = .ok (.aload_n 0, 1) := by decide +kernel
theorem dX12_taken_101 : decode cX12_taken 101 = .ok (.getfield 75, 3) := by decide +kernel
theorem dX12_taken_104 : decode cX12_taken 104 = .ok (.iload_n 1, 1) := by decide +kernel
theorem dX12_taken_105 : decode cX12_taken 105 = .ok (.iaload, 1) := by decide +kernel
theorem dX12_taken_106 : decode cX12_taken 106 = .ok (.goto 5, 3) := by decide +kernel
theorem dX12_taken_111 : decode cX12_taken 111 = .ok (.ireturn, 1) := by decide +kernel
theorem dX12_taken_87 : decode cX12_taken 87 = .ok (.iload_n 3, 1) := by decide +kernel
theorem dX12_taken_88 : decode cX12_taken 88 = .ok (.invokestatic 348, 3) := by decide +kernel
theorem m_1312 : Cond.code yX12_above cX12_above 1 (some .int) ∈ BW := List.mem_of_getElem? (i := 1312) (by decide +kernel)
theorem m_1310 : Cond.methodLink RX12 348 yX12_above ∈ BW := List.mem_of_getElem? (i := 1310) (by decide +kernel)
theorem m_1311 : Cond.static yX12_above ∈ BW := List.mem_of_getElem? (i := 1311) (by decide +kernel)
theorem si_X12_348 : SS RX12 348 yX12_above cX12_above 1 (some .int) 1 := ⟨⟨m_1310, m_1311, m_5, m_1312⟩, ⟨by decide +kernel, by decide +kernel, by decide +kernel⟩⟩
theorem dX12_taken_91 : decode cX12_taken 91 = .ok (.istore_n 3, 1) := by decide +kernel
theorem dX12_taken_92 : decode cX12_taken 92 = .ok (.goto (-14), 3) := by decide +kernel
theorem dX12_taken_109 : decode cX12_taken 109 = .ok (.bipush (-13), 2) := by decide +kernel
theorem dX12_taken_40 : decode cX12_taken 40 = .ok (.iload_n 2, 1) := by decide +kernel
theorem dX12_taken_41 : decode cX12_taken 41 = .ok (.bipush 10, 2) := by decide +kernel
theorem dX12_taken_43 : decode cX12_taken 43 = .ok (.isub, 1) := by decide +kernel
theorem dX12_taken_44 : decode cX12_taken 44 = .ok (.aload_n 0, 1) := by decide +kernel
theorem dX12_taken_45 : decode cX12_taken 45 = .ok (.getfield 75, 3) := by decide +kernel
theorem dX12_taken_48 : decode cX12_taken 48 = .ok (.iload_n 1, 1) := by decide +kernel
theorem dX12_taken_49 : decode cX12_taken 49 = .ok (.iaload, 1) := by decide +kernel
theorem dX12_taken_50 : decode cX12_taken 50 = .ok (.if_icmp .ne 12, 3) := by decide +kernel
theorem dX12_taken_62 : decode cX12_taken 62 = .ok (.bipush (-13), 2) := by decide +kernel
theorem dX12_taken_64 : decode cX12_taken 64 = .ok (.ireturn, 1) := by decide +kernel
theorem dX12_taken_53 : decode cX12_taken 53 = .ok (.aload_n 0, 1) := by decide +kernel
theorem dX12_taken_54 : decode cX12_taken 54 = .ok (.getfield 78, 3) := by decide +kernel
theorem dX12_taken_57 : decode cX12_taken 57 = .ok (.iload_n 1, 1) := by decide +kernel
theorem dX12_taken_58 : decode cX12_taken 58 = .ok (.iaload, 1) := by decide +kernel
theorem dX12_taken_59 : decode cX12_taken 59 = .ok (.goto 5, 3) := by decide +kernel
theorem dX12_taken_17 : decode cX12_taken 17 = .ok (.iload_n 2, 1) := by decide +kernel
theorem dX12_taken_18 : decode cX12_taken 18 = .ok (.bipush 10, 2) := by decide +kernel
theorem dX12_taken_20 : decode cX12_taken 20 = .ok (.bipush 14, 2) := by decide +kernel
theorem dX12_taken_22 : decode cX12_taken 22 = .ok (.invokestatic 84, 3) := by decide +kernel
theorem dX12_taken_25 : decode cX12_taken 25 = .ok (.ifCond .ne 5, 3) := by decide +kernel
theorem dX12_taken_28 : decode cX12_taken 28 = .ok (.iconst (-1), 1) := by decide +kernel
theorem dX12_taken_29 : decode cX12_taken 29 = .ok (.ireturn, 1) := by decide +kernel
theorem dX12_began_0 : decode cX12_began 0 = .ok (.aload_n 0, 1) := by decide +kernel
theorem dX12_began_1 : decode cX12_began 1 = .ok (.getfield 351, 3) := by decide +kernel
theorem m_1346 : Cond.fieldLink RX12 351 "InquiryBenchModel" "traced" "I" ∈ BW := List.mem_of_getElem? (i := 1346) (by decide +kernel)
theorem gf_X12_351 (hC : CX p s m meth c y0 b0 mL0 rt0 args) (hy0 : y0.cls = RX12) (hK : KK G s) (hP : va_P G.1 vwCl ws H) (q0 : Nat) {fs : List Value} {v : Value} (he : ws[q0]? = some (a, .inr (12, fs))) (hv : fs[35]? = some v) (hdg : decode b0 pc = .ok (.getfield 351, 3)) (kk : W p l e R s m args below meth c H locs cells slots Q (F0 m (pc + 3) ls (v :: rest))) : W p l e R s m args below meth c H locs cells slots Q (F0 m pc ls (.ref a :: rest)) := by
  obtain ⟨hx, hb, hr, hml, hB, hown, hlocks, hnm⟩ := hC
  rw [hy0] at hown
  exact va_get (ci := 12) (C := RX12) (T := TX12) (N := 41) hx hb hB in_X12 hown hK.1 hP q0 he rfl 35 (by decide) (hB _ m_1346) (fun _ h => h) hv hdg kk
theorem dX12_began_4 : decode cX12_began 4 = .ok (.bipush 30, 2) := by decide +kernel
theorem dX12_began_6 : decode cX12_began 6 = .ok (.if_icmp .ge 23, 3) := by decide +kernel
theorem dX12_began_29 : decode cX12_began 29 = .ok (.return_, 1) := by decide +kernel
theorem dX12_began_9 : decode cX12_began 9 = .ok (.aload_n 0, 1) := by decide +kernel
theorem dX12_began_10 : decode cX12_began 10 = .ok (.getfield 81, 3) := by decide +kernel
theorem m_207 : Cond.fieldLink RX12 81 "InquiryBenchModel" "trace" "[I" ∈ BW := List.mem_of_getElem? (i := 207) (by decide +kernel)
theorem gf_X12_81 (hC : CX p s m meth c y0 b0 mL0 rt0 args) (hy0 : y0.cls = RX12) (hK : KK G s) (hP : va_P G.1 vwCl ws H) (q0 : Nat) {fs : List Value} {v : Value} (he : ws[q0]? = some (a, .inr (12, fs))) (hv : fs[34]? = some v) (hdg : decode b0 pc = .ok (.getfield 81, 3)) (kk : W p l e R s m args below meth c H locs cells slots Q (F0 m (pc + 3) ls (v :: rest))) : W p l e R s m args below meth c H locs cells slots Q (F0 m pc ls (.ref a :: rest)) := by
  obtain ⟨hx, hb, hr, hml, hB, hown, hlocks, hnm⟩ := hC
  rw [hy0] at hown
  exact va_get (ci := 12) (C := RX12) (T := TX12) (N := 41) hx hb hB in_X12 hown hK.1 hP q0 he rfl 34 (by decide) (hB _ m_207) (fun _ h => h) hv hdg kk
theorem dX12_began_13 : decode cX12_began 13 = .ok (.aload_n 0, 1) := by decide +kernel
theorem dX12_began_14 : decode cX12_began 14 = .ok (.getfield 351, 3) := by decide +kernel
theorem dX12_began_17 : decode cX12_began 17 = .ok (.iload_n 1, 1) := by decide +kernel
theorem dX12_began_18 : decode cX12_began 18 = .ok (.iastore, 1) := by decide +kernel
theorem dX12_began_19 : decode cX12_began 19 = .ok (.aload_n 0, 1) := by decide +kernel
theorem dX12_began_20 : decode cX12_began 20 = .ok (.dup, 1) := by decide +kernel
theorem dX12_began_21 : decode cX12_began 21 = .ok (.getfield 351, 3) := by decide +kernel
theorem dX12_began_24 : decode cX12_began 24 = .ok (.iconst 1, 1) := by decide +kernel
theorem dX12_began_25 : decode cX12_began 25 = .ok (.iadd, 1) := by decide +kernel
theorem dX12_began_26 : decode cX12_began 26 = .ok (.putfield 351, 3) := by decide +kernel
theorem pf_X12_351 (hC : CX p s m meth c y0 b0 mL0 rt0 args) (hy0 : y0.cls = RX12) (hK : KK G s) (hP : va_P G.1 vwCl ws H) (hD : va_D A ws) (hS : va_S A H0 H locs) (q0 : Nat) {fs : List Value} {v : Value} {ws' : va_W} (he : ws[q0]? = some (a, .inr (12, fs))) (hl : 35 < fs.length) (hws : ws.set q0 (a, .inr (12, fs.set 35 v)) = ws') (hn : narrow .int v = v) (hfit : fits .int v = true) (hdg : decode b0 pc = .ok (.putfield 351, 3)) (kk : ∀ (H1 : Heap) (locs1 : List Loc), va_P G.1 vwCl ws' H1 → va_D A ws' → va_S A H0 H1 locs1 → W p l e R s m args below meth c H1 locs1 cells slots Q (F0 m (pc + 3) ls rest)) : W p l e R s m args below meth c H locs cells slots Q (F0 m pc ls (v :: .ref a :: rest)) := by
  obtain ⟨hx, hb, hr, hml, hB, hown, hlocks, hnm⟩ := hC
  rw [hy0] at hown
  subst hws
  exact va_put (ci := 12) (ty := .int) (C := RX12) (T := TX12) (N := 41) hx hb hB in_X12 tyX12 tyX12_ok nmX12 hown hK.1 hP hD hS q0 he rfl 35 (by decide) (hB _ m_1346) (fun _ h => h) rfl (by decide +kernel) hn hfit hl hdg kk
end WR
theorem nz_sub {a b : Int32} (h : ¬ a = b) : ¬ a - b = 0 := by
  intro h9
  apply h
  have e : a - b + b = 0 + b := by rw [h9]
  rw [Int32.sub_add_cancel, Int32.zero_add] at e
  exact e
section WR
variable {p : Program} {l : Launch} {e : Env} {R : Room} {s : State} {m : MethodId} {args : Array Value} {below : List Frame} {meth : Method} {c : Code} {H : Heap} {locs : List Loc} {cells slots : Nat} {Q : State → Prop}
variable {pc : Nat} {ls : Array Slot} {rest : List Value} {G : GG} {ws : va_W} {A : Nat → Prop} {y0 : MethodName} {b0 : ByteArray} {mL0 : Nat} {rt0 : Option FieldType} {a : Nat} {H0 : Heap}
theorem dX12_body_0 : decode cX12_body 0 = .ok (.iconst 4, 1) := by decide +kernel
theorem dX12_body_1 : decode cX12_body 1 = .ok (.iload_n 1, 1) := by decide +kernel
theorem dX12_body_2 : decode cX12_body 2 = .ok (.imul, 1) := by decide +kernel
theorem dX12_body_3 : decode cX12_body 3 = .ok (.iload_n 2, 1) := by decide +kernel
theorem dX12_body_4 : decode cX12_body 4 = .ok (.iadd, 1) := by decide +kernel
theorem dX12_body_5 : decode cX12_body 5 = .ok (.tableswitch 348 0 22 #[107, 120, 135, 153, 348, 202, 348, 348, 348, 348, 221, 348, 348, 237, 348, 253, 269, 348, 288, 348, 329, 348, 313], 107) := by decide +kernel
theorem dX12_body_112 : decode cX12_body 112 = .ok (.aload_n 0, 1) := by decide +kernel
theorem dX12_body_113 : decode cX12_body 113 = .ok (.bipush 10, 2) := by decide +kernel
theorem dX12_body_115 : decode cX12_body 115 = .ok (.invokevirtual 366, 3) := by decide +kernel
theorem m_1363 : Cond.code yX12_began cX12_began 2 none ∈ BW := List.mem_of_getElem? (i := 1363) (by decide +kernel)
theorem m_1360 : Cond.methodLink RX12 366 yX12_began ∈ BW := List.mem_of_getElem? (i := 1360) (by decide +kernel)
theorem m_1361 : Cond.instanceMethod yX12_began ∈ BW := List.mem_of_getElem? (i := 1361) (by decide +kernel)
theorem m_1362 : Cond.selects RX12 yX12_began yX12_began ∈ BW := List.mem_of_getElem? (i := 1362) (by decide +kernel)
theorem si_X12_366 : SV RX12 RX12 366 yX12_began cX12_began 2 none 1 := ⟨⟨m_1360, m_1361, m_1362, m_5, m_1363⟩, rfl, by decide +kernel, by decide +kernel, by decide +kernel⟩
theorem dX12_body_118 : decode cX12_body 118 = .ok (.iload_n 3, 1) := by decide +kernel
theorem dX12_body_119 : decode cX12_body 119 = .ok (.aload_n 0, 1) := by decide +kernel
theorem dX12_body_120 : decode cX12_body 120 = .ok (.getfield 369, 3) := by decide +kernel
theorem m_1350 : Cond.fieldLink RX12 369 "InquiryBenchModel" "size" "I" ∈ BW := List.mem_of_getElem? (i := 1350) (by decide +kernel)
theorem gf_X12_369 (hC : CX p s m meth c y0 b0 mL0 rt0 args) (hy0 : y0.cls = RX12) (hK : KK G s) (hP : va_P G.1 vwCl ws H) (q0 : Nat) {fs : List Value} {v : Value} (he : ws[q0]? = some (a, .inr (12, fs))) (hv : fs[39]? = some v) (hdg : decode b0 pc = .ok (.getfield 369, 3)) (kk : W p l e R s m args below meth c H locs cells slots Q (F0 m (pc + 3) ls (v :: rest))) : W p l e R s m args below meth c H locs cells slots Q (F0 m pc ls (.ref a :: rest)) := by
  obtain ⟨hx, hb, hr, hml, hB, hown, hlocks, hnm⟩ := hC
  rw [hy0] at hown
  exact va_get (ci := 12) (C := RX12) (T := TX12) (N := 41) hx hb hB in_X12 hown hK.1 hP q0 he rfl 39 (by decide) (hB _ m_1350) (fun _ h => h) hv hdg kk
theorem dX12_body_123 : decode cX12_body 123 = .ok (.iadd, 1) := by decide +kernel
theorem dX12_body_124 : decode cX12_body 124 = .ok (.ireturn, 1) := by decide +kernel
theorem dX12_bodyFrom_0 : decode cX12_bodyFrom 0 = .ok (.iload_n 1, 1) := by decide +kernel
theorem dX12_bodyFrom_1 : decode cX12_bodyFrom 1 = .ok (.istore 4, 2) := by decide +kernel
theorem dX12_bodyFrom_3 : decode cX12_bodyFrom 3 = .ok (.iload 4, 2) := by decide +kernel
theorem dX12_bodyFrom_5 : decode cX12_bodyFrom 5 = .ok (.iload_n 2, 1) := by decide +kernel
theorem dX12_bodyFrom_6 : decode cX12_bodyFrom 6 = .ok (.invokestatic 360, 3) := by decide +kernel
theorem m_1367 : Cond.code yX12_hasOwn cX12_hasOwn 2 (some .boolean) ∈ BW := List.mem_of_getElem? (i := 1367) (by decide +kernel)
theorem m_1365 : Cond.methodLink RX12 360 yX12_hasOwn ∈ BW := List.mem_of_getElem? (i := 1365) (by decide +kernel)
theorem m_1366 : Cond.static yX12_hasOwn ∈ BW := List.mem_of_getElem? (i := 1366) (by decide +kernel)
theorem si_X12_360 : SS RX12 360 yX12_hasOwn cX12_hasOwn 2 (some .boolean) 2 := ⟨⟨m_1365, m_1366, m_5, m_1367⟩, ⟨by decide +kernel, by decide +kernel, by decide +kernel⟩⟩
theorem dX12_bodyFrom_9 : decode cX12_bodyFrom 9 = .ok (.ifCond .ne 13, 3) := by decide +kernel
theorem dX12_bodyFrom_22 : decode cX12_bodyFrom 22 = .ok (.aload_n 0, 1) := by decide +kernel
theorem dX12_bodyFrom_23 : decode cX12_bodyFrom 23 = .ok (.iload 4, 2) := by decide +kernel
theorem dX12_bodyFrom_25 : decode cX12_bodyFrom 25 = .ok (.iload_n 2, 1) := by decide +kernel
theorem dX12_bodyFrom_26 : decode cX12_bodyFrom 26 = .ok (.iload_n 3, 1) := by decide +kernel
theorem dX12_bodyFrom_27 : decode cX12_bodyFrom 27 = .ok (.invokevirtual 363, 3) := by decide +kernel
theorem m_1359 : Cond.code yX12_body cX12_body 6 (some .int) ∈ BW := List.mem_of_getElem? (i := 1359) (by decide +kernel)
theorem m_1368 : Cond.methodLink RX12 363 yX12_body ∈ BW := List.mem_of_getElem? (i := 1368) (by decide +kernel)
theorem m_1369 : Cond.instanceMethod yX12_body ∈ BW := List.mem_of_getElem? (i := 1369) (by decide +kernel)
theorem m_1370 : Cond.selects RX12 yX12_body yX12_body ∈ BW := List.mem_of_getElem? (i := 1370) (by decide +kernel)
theorem si_X12_363 : SV RX12 RX12 363 yX12_body cX12_body 6 (some .int) 3 := ⟨⟨m_1368, m_1369, m_1370, m_5, m_1359⟩, rfl, by decide +kernel, by decide +kernel, by decide +kernel⟩
theorem dX12_bodyFrom_30 : decode cX12_bodyFrom 30 = .ok (.ireturn, 1) := by decide +kernel
theorem dX12_body_274 : decode cX12_body 274 = .ok (.aload_n 0, 1) := by decide +kernel
theorem dX12_body_275 : decode cX12_body 275 = .ok (.bipush 50, 2) := by decide +kernel
theorem dX12_body_277 : decode cX12_body 277 = .ok (.invokevirtual 366, 3) := by decide +kernel
theorem dX12_body_280 : decode cX12_body 280 = .ok (.aload_n 0, 1) := by decide +kernel
theorem dX12_body_281 : decode cX12_body 281 = .ok (.iconst 0, 1) := by decide +kernel
theorem dX12_body_282 : decode cX12_body 282 = .ok (.iconst 0, 1) := by decide +kernel
theorem dX12_body_283 : decode cX12_body 283 = .ok (.iload_n 3, 1) := by decide +kernel
theorem dX12_body_284 : decode cX12_body 284 = .ok (.invokevirtual 357, 3) := by decide +kernel
theorem m_1364 : Cond.code yX12_bodyFrom cX12_bodyFrom 5 (some .int) ∈ BW := List.mem_of_getElem? (i := 1364) (by decide +kernel)
theorem m_1356 : Cond.methodLink RX12 357 yX12_bodyFrom ∈ BW := List.mem_of_getElem? (i := 1356) (by decide +kernel)
theorem m_1357 : Cond.instanceMethod yX12_bodyFrom ∈ BW := List.mem_of_getElem? (i := 1357) (by decide +kernel)
theorem m_1358 : Cond.selects RX12 yX12_bodyFrom yX12_bodyFrom ∈ BW := List.mem_of_getElem? (i := 1358) (by decide +kernel)
theorem si_X12_357 : SV RX12 RX12 357 yX12_bodyFrom cX12_bodyFrom 5 (some .int) 3 := ⟨⟨m_1356, m_1357, m_1358, m_5, m_1364⟩, rfl, by decide +kernel, by decide +kernel, by decide +kernel⟩
theorem dX12_body_287 : decode cX12_body 287 = .ok (.aload_n 0, 1) := by decide +kernel
theorem dX12_body_288 : decode cX12_body 288 = .ok (.getfield 378, 3) := by decide +kernel
theorem m_1348 : Cond.fieldLink RX12 378 "InquiryBenchModel" "numbe\x72" "I" ∈ BW := List.mem_of_getElem? (i := 1348) (by decide +kernel)
theorem gf_X12_378 (hC : CX p s m meth c y0 b0 mL0 rt0 args) (hy0 : y0.cls = RX12) (hK : KK G s) (hP : va_P G.1 vwCl ws H) (q0 : Nat) {fs : List Value} {v : Value} (he : ws[q0]? = some (a, .inr (12, fs))) (hv : fs[37]? = some v) (hdg : decode b0 pc = .ok (.getfield 378, 3)) (kk : W p l e R s m args below meth c H locs cells slots Q (F0 m (pc + 3) ls (v :: rest))) : W p l e R s m args below meth c H locs cells slots Q (F0 m pc ls (.ref a :: rest)) := by
  obtain ⟨hx, hb, hr, hml, hB, hown, hlocks, hnm⟩ := hC
  rw [hy0] at hown
  exact va_get (ci := 12) (C := RX12) (T := TX12) (N := 41) hx hb hB in_X12 hown hK.1 hP q0 he rfl 37 (by decide) (hB _ m_1348) (fun _ h => h) hv hdg kk
theorem dX12_body_291 : decode cX12_body 291 = .ok (.isub, 1) := by decide +kernel
theorem dX12_body_292 : decode cX12_body 292 = .ok (.ireturn, 1) := by decide +kernel
theorem dX12_body_334 : decode cX12_body 334 = .ok (.aload_n 0, 1) := by decide +kernel
theorem dX12_body_335 : decode cX12_body 335 = .ok (.bipush 61, 2) := by decide +kernel
theorem dX12_body_337 : decode cX12_body 337 = .ok (.invokevirtual 366, 3) := by decide +kernel
theorem dX12_body_340 : decode cX12_body 340 = .ok (.aload_n 0, 1) := by decide +kernel
theorem dX12_body_341 : decode cX12_body 341 = .ok (.iconst 4, 1) := by decide +kernel
theorem dX12_body_342 : decode cX12_body 342 = .ok (.iconst 0, 1) := by decide +kernel
theorem dX12_body_343 : decode cX12_body 343 = .ok (.iload_n 3, 1) := by decide +kernel
theorem dX12_body_344 : decode cX12_body 344 = .ok (.aload_n 0, 1) := by decide +kernel
theorem dX12_body_345 : decode cX12_body 345 = .ok (.getfield 375, 3) := by decide +kernel
theorem m_1349 : Cond.fieldLink RX12 375 "InquiryBenchModel" "whose" "I" ∈ BW := List.mem_of_getElem? (i := 1349) (by decide +kernel)
theorem gf_X12_375 (hC : CX p s m meth c y0 b0 mL0 rt0 args) (hy0 : y0.cls = RX12) (hK : KK G s) (hP : va_P G.1 vwCl ws H) (q0 : Nat) {fs : List Value} {v : Value} (he : ws[q0]? = some (a, .inr (12, fs))) (hv : fs[38]? = some v) (hdg : decode b0 pc = .ok (.getfield 375, 3)) (kk : W p l e R s m args below meth c H locs cells slots Q (F0 m (pc + 3) ls (v :: rest))) : W p l e R s m args below meth c H locs cells slots Q (F0 m pc ls (.ref a :: rest)) := by
  obtain ⟨hx, hb, hr, hml, hB, hown, hlocks, hnm⟩ := hC
  rw [hy0] at hown
  exact va_get (ci := 12) (C := RX12) (T := TX12) (N := 41) hx hb hB in_X12 hown hK.1 hP q0 he rfl 38 (by decide) (hB _ m_1349) (fun _ h => h) hv hdg kk
theorem dX12_body_348 : decode cX12_body 348 = .ok (.iadd, 1) := by decide +kernel
theorem dX12_body_349 : decode cX12_body 349 = .ok (.invokevirtual 357, 3) := by decide +kernel
theorem dX12_body_352 : decode cX12_body 352 = .ok (.ireturn, 1) := by decide +kernel
theorem dX12_bodyFrom_12 : decode cX12_bodyFrom 12 = .ok (.iload 4, 2) := by decide +kernel
theorem dX12_bodyFrom_14 : decode cX12_bodyFrom 14 = .ok (.invokestatic 348, 3) := by decide +kernel
theorem dX12_bodyFrom_17 : decode cX12_bodyFrom 17 = .ok (.istore 4, 2) := by decide +kernel
theorem dX12_bodyFrom_19 : decode cX12_bodyFrom 19 = .ok (.goto (-16), 3) := by decide +kernel
theorem dX12_dealt_0 : decode cX12_dealt 0 = .ok (.aload_n 0, 1) := by decide +kernel
theorem dX12_dealt_1 : decode cX12_dealt 1 = .ok (.aload_n 0, 1) := by decide +kernel
theorem dX12_dealt_2 : decode cX12_dealt 2 = .ok (.getfield 354, 3) := by decide +kernel
theorem m_1347 : Cond.fieldLink RX12 354 "InquiryBenchModel" "deale\x72" "I" ∈ BW := List.mem_of_getElem? (i := 1347) (by decide +kernel)
theorem gf_X12_354 (hC : CX p s m meth c y0 b0 mL0 rt0 args) (hy0 : y0.cls = RX12) (hK : KK G s) (hP : va_P G.1 vwCl ws H) (q0 : Nat) {fs : List Value} {v : Value} (he : ws[q0]? = some (a, .inr (12, fs))) (hv : fs[36]? = some v) (hdg : decode b0 pc = .ok (.getfield 354, 3)) (kk : W p l e R s m args below meth c H locs cells slots Q (F0 m (pc + 3) ls (v :: rest))) : W p l e R s m args below meth c H locs cells slots Q (F0 m pc ls (.ref a :: rest)) := by
  obtain ⟨hx, hb, hr, hml, hB, hown, hlocks, hnm⟩ := hC
  rw [hy0] at hown
  exact va_get (ci := 12) (C := RX12) (T := TX12) (N := 41) hx hb hB in_X12 hown hK.1 hP q0 he rfl 36 (by decide) (hB _ m_1347) (fun _ h => h) hv hdg kk
theorem dX12_dealt_5 : decode cX12_dealt 5 = .ok (.iload_n 1, 1) := by decide +kernel
theorem dX12_dealt_6 : decode cX12_dealt 6 = .ok (.iload_n 2, 1) := by decide +kernel
theorem dX12_dealt_7 : decode cX12_dealt 7 = .ok (.invokevirtual 357, 3) := by decide +kernel
theorem dX12_dealt_10 : decode cX12_dealt 10 = .ok (.ireturn, 1) := by decide +kernel
theorem dX12_body_125 : decode cX12_body 125 = .ok (.aload_n 0, 1) := by decide +kernel
theorem dX12_body_126 : decode cX12_body 126 = .ok (.bipush 11, 2) := by decide +kernel
theorem dX12_body_128 : decode cX12_body 128 = .ok (.invokevirtual 366, 3) := by decide +kernel
theorem dX12_body_131 : decode cX12_body 131 = .ok (.aload_n 0, 1) := by decide +kernel
theorem dX12_body_132 : decode cX12_body 132 = .ok (.iconst 0, 1) := by decide +kernel
theorem dX12_body_133 : decode cX12_body 133 = .ok (.iload_n 3, 1) := by decide +kernel
theorem dX12_body_134 : decode cX12_body 134 = .ok (.invokevirtual 372, 3) := by decide +kernel
theorem m_1355 : Cond.code yX12_dealt cX12_dealt 3 (some .int) ∈ BW := List.mem_of_getElem? (i := 1355) (by decide +kernel)
theorem m_1352 : Cond.methodLink RX12 372 yX12_dealt ∈ BW := List.mem_of_getElem? (i := 1352) (by decide +kernel)
theorem m_1353 : Cond.instanceMethod yX12_dealt ∈ BW := List.mem_of_getElem? (i := 1353) (by decide +kernel)
theorem m_1354 : Cond.selects RX12 yX12_dealt yX12_dealt ∈ BW := List.mem_of_getElem? (i := 1354) (by decide +kernel)
theorem si_X12_372 : SV RX12 RX12 372 yX12_dealt cX12_dealt 3 (some .int) 2 := ⟨⟨m_1352, m_1353, m_1354, m_5, m_1355⟩, rfl, by decide +kernel, by decide +kernel, by decide +kernel⟩
theorem dX12_body_137 : decode cX12_body 137 = .ok (.iconst 2, 1) := by decide +kernel
theorem dX12_body_138 : decode cX12_body 138 = .ok (.imul, 1) := by decide +kernel
theorem dX12_body_139 : decode cX12_body 139 = .ok (.ireturn, 1) := by decide +kernel
theorem dX12_body_207 : decode cX12_body 207 = .ok (.aload_n 0, 1) := by decide +kernel
theorem dX12_body_208 : decode cX12_body 208 = .ok (.bipush 20, 2) := by decide +kernel
theorem dX12_body_210 : decode cX12_body 210 = .ok (.invokevirtual 366, 3) := by decide +kernel
theorem dX12_body_213 : decode cX12_body 213 = .ok (.aload_n 0, 1) := by decide +kernel
theorem dX12_body_214 : decode cX12_body 214 = .ok (.iconst 0, 1) := by decide +kernel
theorem dX12_body_215 : decode cX12_body 215 = .ok (.iconst 1, 1) := by decide +kernel
theorem dX12_body_216 : decode cX12_body 216 = .ok (.iload_n 3, 1) := by decide +kernel
theorem dX12_body_217 : decode cX12_body 217 = .ok (.invokevirtual 357, 3) := by decide +kernel
theorem dX12_body_220 : decode cX12_body 220 = .ok (.aload_n 0, 1) := by decide +kernel
theorem dX12_body_221 : decode cX12_body 221 = .ok (.getfield 378, 3) := by decide +kernel
theorem dX12_body_224 : decode cX12_body 224 = .ok (.ixor, 1) := by decide +kernel
theorem dX12_body_225 : decode cX12_body 225 = .ok (.ireturn, 1) := by decide +kernel
theorem dX12_body_242 : decode cX12_body 242 = .ok (.aload_n 0, 1) := by decide +kernel
theorem dX12_body_243 : decode cX12_body 243 = .ok (.bipush 40, 2) := by decide +kernel
theorem dX12_body_245 : decode cX12_body 245 = .ok (.invokevirtual 366, 3) := by decide +kernel
theorem dX12_body_248 : decode cX12_body 248 = .ok (.iconst 0, 1) := by decide +kernel
theorem dX12_body_249 : decode cX12_body 249 = .ok (.aload_n 0, 1) := by decide +kernel
theorem dX12_body_250 : decode cX12_body 250 = .ok (.iconst 1, 1) := by decide +kernel
theorem dX12_body_251 : decode cX12_body 251 = .ok (.iconst 1, 1) := by decide +kernel
theorem dX12_body_252 : decode cX12_body 252 = .ok (.iload_n 3, 1) := by decide +kernel
theorem dX12_body_253 : decode cX12_body 253 = .ok (.invokevirtual 357, 3) := by decide +kernel
theorem dX12_body_256 : decode cX12_body 256 = .ok (.isub, 1) := by decide +kernel
theorem dX12_body_257 : decode cX12_body 257 = .ok (.ireturn, 1) := by decide +kernel
theorem dX12_body_140 : decode cX12_body 140 = .ok (.aload_n 0, 1) := by decide +kernel
theorem dX12_body_141 : decode cX12_body 141 = .ok (.bipush 12, 2) := by decide +kernel
theorem dX12_body_143 : decode cX12_body 143 = .ok (.invokevirtual 366, 3) := by decide +kernel
theorem dX12_body_146 : decode cX12_body 146 = .ok (.aload_n 0, 1) := by decide +kernel
theorem dX12_body_147 : decode cX12_body 147 = .ok (.iconst 1, 1) := by decide +kernel
theorem dX12_body_148 : decode cX12_body 148 = .ok (.iload_n 3, 1) := by decide +kernel
theorem dX12_body_149 : decode cX12_body 149 = .ok (.invokevirtual 372, 3) := by decide +kernel
theorem dX12_body_152 : decode cX12_body 152 = .ok (.aload_n 0, 1) := by decide +kernel
theorem dX12_body_153 : decode cX12_body 153 = .ok (.getfield 375, 3) := by decide +kernel
theorem dX12_body_156 : decode cX12_body 156 = .ok (.isub, 1) := by decide +kernel
theorem dX12_body_157 : decode cX12_body 157 = .ok (.ireturn, 1) := by decide +kernel
theorem dX12_body_226 : decode cX12_body 226 = .ok (.aload_n 0, 1) := by decide +kernel
theorem dX12_body_227 : decode cX12_body 227 = .ok (.bipush 30, 2) := by decide +kernel
theorem dX12_body_229 : decode cX12_body 229 = .ok (.invokevirtual 366, 3) := by decide +kernel
theorem dX12_body_232 : decode cX12_body 232 = .ok (.aload_n 0, 1) := by decide +kernel
theorem dX12_body_233 : decode cX12_body 233 = .ok (.iconst 0, 1) := by decide +kernel
theorem dX12_body_234 : decode cX12_body 234 = .ok (.iconst 2, 1) := by decide +kernel
theorem dX12_body_235 : decode cX12_body 235 = .ok (.iload_n 3, 1) := by decide +kernel
theorem dX12_body_236 : decode cX12_body 236 = .ok (.invokevirtual 357, 3) := by decide +kernel
theorem dX12_body_239 : decode cX12_body 239 = .ok (.iconst 3, 1) := by decide +kernel
theorem dX12_body_240 : decode cX12_body 240 = .ok (.imul, 1) := by decide +kernel
theorem dX12_body_241 : decode cX12_body 241 = .ok (.ireturn, 1) := by decide +kernel
theorem dX12_body_293 : decode cX12_body 293 = .ok (.aload_n 0, 1) := by decide +kernel
theorem dX12_body_294 : decode cX12_body 294 = .ok (.bipush 51, 2) := by decide +kernel
theorem dX12_body_296 : decode cX12_body 296 = .ok (.invokevirtual 366, 3) := by decide +kernel
theorem dX12_body_299 : decode cX12_body 299 = .ok (.aload_n 0, 1) := by decide +kernel
theorem dX12_body_300 : decode cX12_body 300 = .ok (.iconst 0, 1) := by decide +kernel
theorem dX12_body_301 : decode cX12_body 301 = .ok (.iconst 2, 1) := by decide +kernel
theorem dX12_body_302 : decode cX12_body 302 = .ok (.iload_n 3, 1) := by decide +kernel
theorem dX12_body_303 : decode cX12_body 303 = .ok (.invokevirtual 357, 3) := by decide +kernel
theorem dX12_body_306 : decode cX12_body 306 = .ok (.istore 4, 2) := by decide +kernel
theorem dX12_body_308 : decode cX12_body 308 = .ok (.iload 4, 2) := by decide +kernel
theorem dX12_body_310 : decode cX12_body 310 = .ok (.aload_n 0, 1) := by decide +kernel
theorem dX12_body_311 : decode cX12_body 311 = .ok (.iconst 1, 1) := by decide +kernel
theorem dX12_body_312 : decode cX12_body 312 = .ok (.iconst 1, 1) := by decide +kernel
theorem dX12_body_313 : decode cX12_body 313 = .ok (.invokevirtual 372, 3) := by decide +kernel
theorem dX12_body_316 : decode cX12_body 316 = .ok (.iadd, 1) := by decide +kernel
theorem dX12_body_317 : decode cX12_body 317 = .ok (.ireturn, 1) := by decide +kernel
theorem dX12_body_318 : decode cX12_body 318 = .ok (.aload_n 0, 1) := by decide +kernel
theorem dX12_body_319 : decode cX12_body 319 = .ok (.bipush 60, 2) := by decide +kernel
theorem dX12_body_321 : decode cX12_body 321 = .ok (.invokevirtual 366, 3) := by decide +kernel
theorem dX12_body_324 : decode cX12_body 324 = .ok (.aload_n 0, 1) := by decide +kernel
theorem dX12_body_325 : decode cX12_body 325 = .ok (.iconst 4, 1) := by decide +kernel
theorem dX12_body_326 : decode cX12_body 326 = .ok (.iconst 2, 1) := by decide +kernel
theorem dX12_body_327 : decode cX12_body 327 = .ok (.iload_n 3, 1) := by decide +kernel
theorem dX12_body_328 : decode cX12_body 328 = .ok (.invokevirtual 357, 3) := by decide +kernel
theorem dX12_body_331 : decode cX12_body 331 = .ok (.iconst 2, 1) := by decide +kernel
theorem dX12_body_332 : decode cX12_body 332 = .ok (.imul, 1) := by decide +kernel
theorem dX12_body_333 : decode cX12_body 333 = .ok (.ireturn, 1) := by decide +kernel
theorem dX12_body_158 : decode cX12_body 158 = .ok (.aload_n 0, 1) := by decide +kernel
theorem dX12_body_159 : decode cX12_body 159 = .ok (.bipush 13, 2) := by decide +kernel
theorem dX12_body_161 : decode cX12_body 161 = .ok (.invokevirtual 366, 3) := by decide +kernel
theorem dX12_body_164 : decode cX12_body 164 = .ok (.aload_n 0, 1) := by decide +kernel
theorem dX12_body_165 : decode cX12_body 165 = .ok (.aload_n 0, 1) := by decide +kernel
theorem dX12_body_166 : decode cX12_body 166 = .ok (.getfield 375, 3) := by decide +kernel
theorem dX12_body_169 : decode cX12_body 169 = .ok (.aload_n 0, 1) := by decide +kernel
theorem dX12_body_170 : decode cX12_body 170 = .ok (.getfield 378, 3) := by decide +kernel
theorem dX12_body_173 : decode cX12_body 173 = .ok (.if_icmp .ne 7, 3) := by decide +kernel
theorem dX12_body_180 : decode cX12_body 180 = .ok (.iconst 0, 1) := by decide +kernel
theorem dX12_body_181 : decode cX12_body 181 = .ok (.putfield 380, 3) := by decide +kernel
theorem m_1351 : Cond.fieldLink RX12 380 "InquiryBenchModel" "isParted" "Z" ∈ BW := List.mem_of_getElem? (i := 1351) (by decide +kernel)
theorem pf_X12_380 (hC : CX p s m meth c y0 b0 mL0 rt0 args) (hy0 : y0.cls = RX12) (hK : KK G s) (hP : va_P G.1 vwCl ws H) (hD : va_D A ws) (hS : va_S A H0 H locs) (q0 : Nat) {fs : List Value} {v : Value} {ws' : va_W} (he : ws[q0]? = some (a, .inr (12, fs))) (hl : 40 < fs.length) (hws : ws.set q0 (a, .inr (12, fs.set 40 v)) = ws') (hn : narrow .boolean v = v) (hfit : fits .boolean v = true) (hdg : decode b0 pc = .ok (.putfield 380, 3)) (kk : ∀ (H1 : Heap) (locs1 : List Loc), va_P G.1 vwCl ws' H1 → va_D A ws' → va_S A H0 H1 locs1 → W p l e R s m args below meth c H1 locs1 cells slots Q (F0 m (pc + 3) ls rest)) : W p l e R s m args below meth c H locs cells slots Q (F0 m pc ls (v :: .ref a :: rest)) := by
  obtain ⟨hx, hb, hr, hml, hB, hown, hlocks, hnm⟩ := hC
  rw [hy0] at hown
  subst hws
  exact va_put (ci := 12) (ty := .boolean) (C := RX12) (T := TX12) (N := 41) hx hb hB in_X12 tyX12 tyX12_ok nmX12 hown hK.1 hP hD hS q0 he rfl 40 (by decide) (hB _ m_1351) (fun _ h => h) rfl (by decide +kernel) hn hfit hl hdg kk
theorem dX12_body_184 : decode cX12_body 184 = .ok (.aload_n 0, 1) := by decide +kernel
theorem dX12_body_185 : decode cX12_body 185 = .ok (.getfield 380, 3) := by decide +kernel
theorem gf_X12_380 (hC : CX p s m meth c y0 b0 mL0 rt0 args) (hy0 : y0.cls = RX12) (hK : KK G s) (hP : va_P G.1 vwCl ws H) (q0 : Nat) {fs : List Value} {v : Value} (he : ws[q0]? = some (a, .inr (12, fs))) (hv : fs[40]? = some v) (hdg : decode b0 pc = .ok (.getfield 380, 3)) (kk : W p l e R s m args below meth c H locs cells slots Q (F0 m (pc + 3) ls (v :: rest))) : W p l e R s m args below meth c H locs cells slots Q (F0 m pc ls (.ref a :: rest)) := by
  obtain ⟨hx, hb, hr, hml, hB, hown, hlocks, hnm⟩ := hC
  rw [hy0] at hown
  exact va_get (ci := 12) (C := RX12) (T := TX12) (N := 41) hx hb hB in_X12 hown hK.1 hP q0 he rfl 40 (by decide) (hB _ m_1351) (fun _ h => h) hv hdg kk
theorem dX12_body_188 : decode cX12_body 188 = .ok (.ifCond .eq 7, 3) := by decide +kernel
theorem dX12_body_195 : decode cX12_body 195 = .ok (.iload_n 3, 1) := by decide +kernel
theorem dX12_body_196 : decode cX12_body 196 = .ok (.aload_n 0, 1) := by decide +kernel
theorem dX12_body_197 : decode cX12_body 197 = .ok (.getfield 375, 3) := by decide +kernel
theorem dX12_body_200 : decode cX12_body 200 = .ok (.aload_n 0, 1) := by decide +kernel
theorem dX12_body_201 : decode cX12_body 201 = .ok (.getfield 378, 3) := by decide +kernel
theorem dX12_body_204 : decode cX12_body 204 = .ok (.isub, 1) := by decide +kernel
theorem dX12_body_205 : decode cX12_body 205 = .ok (.idiv, 1) := by decide +kernel
theorem dX12_body_206 : decode cX12_body 206 = .ok (.ireturn, 1) := by decide +kernel
theorem dX12_body_176 : decode cX12_body 176 = .ok (.iconst 1, 1) := by decide +kernel
theorem dX12_body_177 : decode cX12_body 177 = .ok (.goto 4, 3) := by decide +kernel
theorem dX12_body_191 : decode cX12_body 191 = .ok (.iconst 0, 1) := by decide +kernel
theorem dX12_body_192 : decode cX12_body 192 = .ok (.goto 14, 3) := by decide +kernel
theorem dX12_body_258 : decode cX12_body 258 = .ok (.aload_n 0, 1) := by decide +kernel
theorem dX12_body_259 : decode cX12_body 259 = .ok (.bipush 41, 2) := by decide +kernel
theorem dX12_body_261 : decode cX12_body 261 = .ok (.invokevirtual 366, 3) := by decide +kernel
theorem dX12_body_264 : decode cX12_body 264 = .ok (.aload_n 0, 1) := by decide +kernel
theorem dX12_body_265 : decode cX12_body 265 = .ok (.iconst 1, 1) := by decide +kernel
theorem dX12_body_266 : decode cX12_body 266 = .ok (.iconst 3, 1) := by decide +kernel
theorem dX12_body_267 : decode cX12_body 267 = .ok (.iload_n 3, 1) := by decide +kernel
theorem dX12_body_268 : decode cX12_body 268 = .ok (.iconst 2, 1) := by decide +kernel
theorem dX12_body_269 : decode cX12_body 269 = .ok (.iadd, 1) := by decide +kernel
theorem dX12_body_270 : decode cX12_body 270 = .ok (.invokevirtual 357, 3) := by decide +kernel
theorem dX12_body_273 : decode cX12_body 273 = .ok (.ireturn, 1) := by decide +kernel
theorem dX12_body_353 : decode cX12_body 353 = .ok (.aload_n 0, 1) := by decide +kernel
theorem dX12_body_354 : decode cX12_body 354 = .ok (.bipush 70, 2) := by decide +kernel
theorem dX12_body_356 : decode cX12_body 356 = .ok (.invokevirtual 366, 3) := by decide +kernel
theorem dX12_body_359 : decode cX12_body 359 = .ok (.aload_n 0, 1) := by decide +kernel
theorem dX12_body_360 : decode cX12_body 360 = .ok (.iconst 0, 1) := by decide +kernel
theorem dX12_body_361 : decode cX12_body 361 = .ok (.iconst 3, 1) := by decide +kernel
theorem dX12_body_362 : decode cX12_body 362 = .ok (.iload_n 3, 1) := by decide +kernel
theorem dX12_body_363 : decode cX12_body 363 = .ok (.invokevirtual 357, 3) := by decide +kernel
theorem dX12_body_366 : decode cX12_body 366 = .ok (.istore 5, 2) := by decide +kernel
theorem dX12_body_368 : decode cX12_body 368 = .ok (.aload_n 0, 1) := by decide +kernel
theorem dX12_body_369 : decode cX12_body 369 = .ok (.getfield 380, 3) := by decide +kernel
theorem dX12_body_372 : decode cX12_body 372 = .ok (.ifCond .eq 7, 3) := by decide +kernel
theorem dX12_body_379 : decode cX12_body 379 = .ok (.iload 5, 2) := by decide +kernel
theorem dX12_body_381 : decode cX12_body 381 = .ok (.aload_n 0, 1) := by decide +kernel
theorem dX12_body_382 : decode cX12_body 382 = .ok (.iconst 0, 1) := by decide +kernel
theorem dX12_body_383 : decode cX12_body 383 = .ok (.aload_n 0, 1) := by decide +kernel
theorem dX12_body_384 : decode cX12_body 384 = .ok (.getfield 378, 3) := by decide +kernel
theorem dX12_body_387 : decode cX12_body 387 = .ok (.invokevirtual 372, 3) := by decide +kernel
theorem dX12_body_390 : decode cX12_body 390 = .ok (.isub, 1) := by decide +kernel
theorem dX12_body_391 : decode cX12_body 391 = .ok (.ireturn, 1) := by decide +kernel
theorem dX12_body_375 : decode cX12_body 375 = .ok (.iconst 0, 1) := by decide +kernel
theorem dX12_body_376 : decode cX12_body 376 = .ok (.goto 15, 3) := by decide +kernel
theorem dX12_deal_0 : decode cX12_deal 0 = .ok (.aload_n 0, 1) := by decide +kernel
theorem dX12_deal_1 : decode cX12_deal 1 = .ok (.iconst 0, 1) := by decide +kernel
theorem dX12_deal_2 : decode cX12_deal 2 = .ok (.putfield 351, 3) := by decide +kernel
theorem dX12_deal_5 : decode cX12_deal 5 = .ok (.iload_n 1, 1) := by decide +kernel
theorem dX12_deal_6 : decode cX12_deal 6 = .ok (.invokestatic 336, 3) := by decide +kernel
theorem dX12_deal_9 : decode cX12_deal 9 = .ok (.ifCond .eq 10, 3) := by decide +kernel
theorem dX12_deal_12 : decode cX12_deal 12 = .ok (.iload_n 2, 1) := by decide +kernel
theorem dX12_deal_13 : decode cX12_deal 13 = .ok (.invokestatic 336, 3) := by decide +kernel
theorem dX12_deal_16 : decode cX12_deal 16 = .ok (.ifCond .ne 7, 3) := by decide +kernel
theorem dX12_deal_23 : decode cX12_deal 23 = .ok (.aload_n 0, 1) := by decide +kernel
theorem dX12_deal_24 : decode cX12_deal 24 = .ok (.iload_n 1, 1) := by decide +kernel
theorem dX12_deal_25 : decode cX12_deal 25 = .ok (.invokevirtual 345, 3) := by decide +kernel
theorem dX12_deal_28 : decode cX12_deal 28 = .ok (.istore 4, 2) := by decide +kernel
theorem dX12_deal_30 : decode cX12_deal 30 = .ok (.iload 4, 2) := by decide +kernel
theorem dX12_deal_32 : decode cX12_deal 32 = .ok (.ifCond .ge 5, 3) := by decide +kernel
theorem dX12_deal_35 : decode cX12_deal 35 = .ok (.iconst 0, 1) := by decide +kernel
theorem dX12_deal_36 : decode cX12_deal 36 = .ok (.ireturn, 1) := by decide +kernel
theorem dX12_deal_37 : decode cX12_deal 37 = .ok (.aload_n 0, 1) := by decide +kernel
theorem dX12_deal_38 : decode cX12_deal 38 = .ok (.iload 4, 2) := by decide +kernel
theorem dX12_deal_40 : decode cX12_deal 40 = .ok (.putfield 354, 3) := by decide +kernel
theorem pf_X12_354 (hC : CX p s m meth c y0 b0 mL0 rt0 args) (hy0 : y0.cls = RX12) (hK : KK G s) (hP : va_P G.1 vwCl ws H) (hD : va_D A ws) (hS : va_S A H0 H locs) (q0 : Nat) {fs : List Value} {v : Value} {ws' : va_W} (he : ws[q0]? = some (a, .inr (12, fs))) (hl : 36 < fs.length) (hws : ws.set q0 (a, .inr (12, fs.set 36 v)) = ws') (hn : narrow .int v = v) (hfit : fits .int v = true) (hdg : decode b0 pc = .ok (.putfield 354, 3)) (kk : ∀ (H1 : Heap) (locs1 : List Loc), va_P G.1 vwCl ws' H1 → va_D A ws' → va_S A H0 H1 locs1 → W p l e R s m args below meth c H1 locs1 cells slots Q (F0 m (pc + 3) ls rest)) : W p l e R s m args below meth c H locs cells slots Q (F0 m pc ls (v :: .ref a :: rest)) := by
  obtain ⟨hx, hb, hr, hml, hB, hown, hlocks, hnm⟩ := hC
  rw [hy0] at hown
  subst hws
  exact va_put (ci := 12) (ty := .int) (C := RX12) (T := TX12) (N := 41) hx hb hB in_X12 tyX12 tyX12_ok nmX12 hown hK.1 hP hD hS q0 he rfl 36 (by decide) (hB _ m_1347) (fun _ h => h) rfl (by decide +kernel) hn hfit hl hdg kk
theorem dX12_deal_43 : decode cX12_deal 43 = .ok (.aload_n 0, 1) := by decide +kernel
theorem dX12_deal_44 : decode cX12_deal 44 = .ok (.aload_n 0, 1) := by decide +kernel
theorem dX12_deal_45 : decode cX12_deal 45 = .ok (.getfield 75, 3) := by decide +kernel
theorem dX12_deal_48 : decode cX12_deal 48 = .ok (.iload_n 1, 1) := by decide +kernel
theorem dX12_deal_49 : decode cX12_deal 49 = .ok (.iaload, 1) := by decide +kernel
theorem dX12_deal_50 : decode cX12_deal 50 = .ok (.putfield 378, 3) := by decide +kernel
theorem pf_X12_378 (hC : CX p s m meth c y0 b0 mL0 rt0 args) (hy0 : y0.cls = RX12) (hK : KK G s) (hP : va_P G.1 vwCl ws H) (hD : va_D A ws) (hS : va_S A H0 H locs) (q0 : Nat) {fs : List Value} {v : Value} {ws' : va_W} (he : ws[q0]? = some (a, .inr (12, fs))) (hl : 37 < fs.length) (hws : ws.set q0 (a, .inr (12, fs.set 37 v)) = ws') (hn : narrow .int v = v) (hfit : fits .int v = true) (hdg : decode b0 pc = .ok (.putfield 378, 3)) (kk : ∀ (H1 : Heap) (locs1 : List Loc), va_P G.1 vwCl ws' H1 → va_D A ws' → va_S A H0 H1 locs1 → W p l e R s m args below meth c H1 locs1 cells slots Q (F0 m (pc + 3) ls rest)) : W p l e R s m args below meth c H locs cells slots Q (F0 m pc ls (v :: .ref a :: rest)) := by
  obtain ⟨hx, hb, hr, hml, hB, hown, hlocks, hnm⟩ := hC
  rw [hy0] at hown
  subst hws
  exact va_put (ci := 12) (ty := .int) (C := RX12) (T := TX12) (N := 41) hx hb hB in_X12 tyX12 tyX12_ok nmX12 hown hK.1 hP hD hS q0 he rfl 37 (by decide) (hB _ m_1348) (fun _ h => h) rfl (by decide +kernel) hn hfit hl hdg kk
theorem dX12_deal_53 : decode cX12_deal 53 = .ok (.aload_n 0, 1) := by decide +kernel
theorem dX12_deal_54 : decode cX12_deal 54 = .ok (.getfield 72, 3) := by decide +kernel
theorem dX12_deal_57 : decode cX12_deal 57 = .ok (.iload_n 1, 1) := by decide +kernel
theorem dX12_deal_58 : decode cX12_deal 58 = .ok (.iaload, 1) := by decide +kernel
theorem dX12_deal_59 : decode cX12_deal 59 = .ok (.iconst 1, 1) := by decide +kernel
theorem dX12_deal_60 : decode cX12_deal 60 = .ok (.if_icmp .ne 7, 3) := by decide +kernel
theorem dX12_deal_63 : decode cX12_deal 63 = .ok (.iconst 1, 1) := by decide +kernel
theorem dX12_deal_64 : decode cX12_deal 64 = .ok (.goto 4, 3) := by decide +kernel
theorem dX12_deal_68 : decode cX12_deal 68 = .ok (.istore 5, 2) := by decide +kernel
theorem dX12_deal_70 : decode cX12_deal 70 = .ok (.aload_n 0, 1) := by decide +kernel
theorem dX12_deal_71 : decode cX12_deal 71 = .ok (.getfield 72, 3) := by decide +kernel
theorem dX12_deal_74 : decode cX12_deal 74 = .ok (.iload_n 1, 1) := by decide +kernel
theorem dX12_deal_75 : decode cX12_deal 75 = .ok (.iaload, 1) := by decide +kernel
theorem dX12_deal_76 : decode cX12_deal 76 = .ok (.iconst 2, 1) := by decide +kernel
theorem dX12_deal_77 : decode cX12_deal 77 = .ok (.if_icmp .ne 7, 3) := by decide +kernel
theorem dX12_deal_84 : decode cX12_deal 84 = .ok (.iconst 0, 1) := by decide +kernel
theorem dX12_deal_85 : decode cX12_deal 85 = .ok (.istore 6, 2) := by decide +kernel
theorem dX12_deal_87 : decode cX12_deal 87 = .ok (.aload_n 0, 1) := by decide +kernel
theorem dX12_deal_88 : decode cX12_deal 88 = .ok (.iload 5, 2) := by decide +kernel
theorem dX12_deal_90 : decode cX12_deal 90 = .ok (.ifCond .eq 15, 3) := by decide +kernel
theorem dX12_deal_93 : decode cX12_deal 93 = .ok (.aload_n 0, 1) := by decide +kernel
theorem dX12_deal_94 : decode cX12_deal 94 = .ok (.aload_n 0, 1) := by decide +kernel
theorem dX12_deal_95 : decode cX12_deal 95 = .ok (.getfield 378, 3) := by decide +kernel
theorem dX12_deal_98 : decode cX12_deal 98 = .ok (.iconst 0, 1) := by decide +kernel
theorem dX12_deal_99 : decode cX12_deal 99 = .ok (.invokevirtual 88, 3) := by decide +kernel
theorem dX12_deal_102 : decode cX12_deal 102 = .ok (.goto 37, 3) := by decide +kernel
theorem dX12_deal_139 : decode cX12_deal 139 = .ok (.putfield 375, 3) := by decide +kernel
theorem pf_X12_375 (hC : CX p s m meth c y0 b0 mL0 rt0 args) (hy0 : y0.cls = RX12) (hK : KK G s) (hP : va_P G.1 vwCl ws H) (hD : va_D A ws) (hS : va_S A H0 H locs) (q0 : Nat) {fs : List Value} {v : Value} {ws' : va_W} (he : ws[q0]? = some (a, .inr (12, fs))) (hl : 38 < fs.length) (hws : ws.set q0 (a, .inr (12, fs.set 38 v)) = ws') (hn : narrow .int v = v) (hfit : fits .int v = true) (hdg : decode b0 pc = .ok (.putfield 375, 3)) (kk : ∀ (H1 : Heap) (locs1 : List Loc), va_P G.1 vwCl ws' H1 → va_D A ws' → va_S A H0 H1 locs1 → W p l e R s m args below meth c H1 locs1 cells slots Q (F0 m (pc + 3) ls rest)) : W p l e R s m args below meth c H locs cells slots Q (F0 m pc ls (v :: .ref a :: rest)) := by
  obtain ⟨hx, hb, hr, hml, hB, hown, hlocks, hnm⟩ := hC
  rw [hy0] at hown
  subst hws
  exact va_put (ci := 12) (ty := .int) (C := RX12) (T := TX12) (N := 41) hx hb hB in_X12 tyX12 tyX12_ok nmX12 hown hK.1 hP hD hS q0 he rfl 38 (by decide) (hB _ m_1349) (fun _ h => h) rfl (by decide +kernel) hn hfit hl hdg kk
theorem dX12_deal_142 : decode cX12_deal 142 = .ok (.aload_n 0, 1) := by decide +kernel
theorem dX12_deal_143 : decode cX12_deal 143 = .ok (.iload 5, 2) := by decide +kernel
theorem dX12_deal_145 : decode cX12_deal 145 = .ok (.ifCond .eq 15, 3) := by decide +kernel
theorem dX12_deal_148 : decode cX12_deal 148 = .ok (.aload_n 0, 1) := by decide +kernel
theorem dX12_deal_149 : decode cX12_deal 149 = .ok (.aload_n 0, 1) := by decide +kernel
theorem dX12_deal_150 : decode cX12_deal 150 = .ok (.getfield 378, 3) := by decide +kernel
theorem dX12_deal_153 : decode cX12_deal 153 = .ok (.iconst 2, 1) := by decide +kernel
theorem dX12_deal_154 : decode cX12_deal 154 = .ok (.invokevirtual 88, 3) := by decide +kernel
theorem dX12_deal_157 : decode cX12_deal 157 = .ok (.goto 37, 3) := by decide +kernel
theorem dX12_deal_194 : decode cX12_deal 194 = .ok (.putfield 369, 3) := by decide +kernel
theorem pf_X12_369 (hC : CX p s m meth c y0 b0 mL0 rt0 args) (hy0 : y0.cls = RX12) (hK : KK G s) (hP : va_P G.1 vwCl ws H) (hD : va_D A ws) (hS : va_S A H0 H locs) (q0 : Nat) {fs : List Value} {v : Value} {ws' : va_W} (he : ws[q0]? = some (a, .inr (12, fs))) (hl : 39 < fs.length) (hws : ws.set q0 (a, .inr (12, fs.set 39 v)) = ws') (hn : narrow .int v = v) (hfit : fits .int v = true) (hdg : decode b0 pc = .ok (.putfield 369, 3)) (kk : ∀ (H1 : Heap) (locs1 : List Loc), va_P G.1 vwCl ws' H1 → va_D A ws' → va_S A H0 H1 locs1 → W p l e R s m args below meth c H1 locs1 cells slots Q (F0 m (pc + 3) ls rest)) : W p l e R s m args below meth c H locs cells slots Q (F0 m pc ls (v :: .ref a :: rest)) := by
  obtain ⟨hx, hb, hr, hml, hB, hown, hlocks, hnm⟩ := hC
  rw [hy0] at hown
  subst hws
  exact va_put (ci := 12) (ty := .int) (C := RX12) (T := TX12) (N := 41) hx hb hB in_X12 tyX12 tyX12_ok nmX12 hown hK.1 hP hD hS q0 he rfl 39 (by decide) (hB _ m_1350) (fun _ h => h) rfl (by decide +kernel) hn hfit hl hdg kk
theorem dX12_deal_197 : decode cX12_deal 197 = .ok (.aload_n 0, 1) := by decide +kernel
theorem dX12_deal_198 : decode cX12_deal 198 = .ok (.iconst 0, 1) := by decide +kernel
theorem dX12_deal_199 : decode cX12_deal 199 = .ok (.putfield 380, 3) := by decide +kernel
theorem dX12_deal_202 : decode cX12_deal 202 = .ok (.aload_n 0, 1) := by decide +kernel
theorem dX12_deal_203 : decode cX12_deal 203 = .ok (.iload_n 2, 1) := by decide +kernel
theorem dX12_deal_204 : decode cX12_deal 204 = .ok (.iload_n 3, 1) := by decide +kernel
theorem dX12_deal_205 : decode cX12_deal 205 = .ok (.invokevirtual 372, 3) := by decide +kernel
theorem dX12_deal_208 : decode cX12_deal 208 = .ok (.istore 7, 2) := by decide +kernel
theorem dX12_deal_210 : decode cX12_deal 210 = .ok (.aload_n 0, 1) := by decide +kernel
theorem dX12_deal_211 : decode cX12_deal 211 = .ok (.getfield 380, 3) := by decide +kernel
theorem dX12_deal_214 : decode cX12_deal 214 = .ok (.ifCond .eq 8, 3) := by decide +kernel
theorem dX12_deal_222 : decode cX12_deal 222 = .ok (.iload 7, 2) := by decide +kernel
theorem dX12_deal_224 : decode cX12_deal 224 = .ok (.ireturn, 1) := by decide +kernel
theorem dX12_deal_217 : decode cX12_deal 217 = .ok (.bipush (-15), 2) := by decide +kernel
theorem dX12_deal_219 : decode cX12_deal 219 = .ok (.goto 5, 3) := by decide +kernel
theorem dX12_deal_67 : decode cX12_deal 67 = .ok (.iconst 0, 1) := by decide +kernel
theorem dX12_deal_80 : decode cX12_deal 80 = .ok (.iconst 1, 1) := by decide +kernel
theorem dX12_deal_81 : decode cX12_deal 81 = .ok (.goto 4, 3) := by decide +kernel
theorem dX12_deal_105 : decode cX12_deal 105 = .ok (.iload 6, 2) := by decide +kernel
theorem dX12_deal_107 : decode cX12_deal 107 = .ok (.ifCond .eq 15, 3) := by decide +kernel
theorem dX12_deal_110 : decode cX12_deal 110 = .ok (.aload_n 0, 1) := by decide +kernel
theorem dX12_deal_111 : decode cX12_deal 111 = .ok (.aload_n 0, 1) := by decide +kernel
theorem dX12_deal_112 : decode cX12_deal 112 = .ok (.getfield 378, 3) := by decide +kernel
theorem dX12_deal_115 : decode cX12_deal 115 = .ok (.iconst 0, 1) := by decide +kernel
theorem dX12_deal_116 : decode cX12_deal 116 = .ok (.invokevirtual 114, 3) := by decide +kernel
theorem dX12_deal_119 : decode cX12_deal 119 = .ok (.goto 20, 3) := by decide +kernel
theorem dX12_deal_160 : decode cX12_deal 160 = .ok (.iload 6, 2) := by decide +kernel
theorem dX12_deal_162 : decode cX12_deal 162 = .ok (.ifCond .eq 15, 3) := by decide +kernel
theorem dX12_deal_165 : decode cX12_deal 165 = .ok (.aload_n 0, 1) := by decide +kernel
theorem dX12_deal_166 : decode cX12_deal 166 = .ok (.aload_n 0, 1) := by decide +kernel
theorem dX12_deal_167 : decode cX12_deal 167 = .ok (.getfield 378, 3) := by decide +kernel
theorem dX12_deal_170 : decode cX12_deal 170 = .ok (.iconst 4, 1) := by decide +kernel
theorem dX12_deal_171 : decode cX12_deal 171 = .ok (.invokevirtual 114, 3) := by decide +kernel
theorem dX12_deal_174 : decode cX12_deal 174 = .ok (.goto 20, 3) := by decide +kernel
theorem dX12_deal_122 : decode cX12_deal 122 = .ok (.aload_n 0, 1) := by decide +kernel
theorem dX12_deal_123 : decode cX12_deal 123 = .ok (.getfield 9, 3) := by decide +kernel
theorem dX12_deal_126 : decode cX12_deal 126 = .ok (.sipush 1552, 3) := by decide +kernel
theorem dX12_deal_129 : decode cX12_deal 129 = .ok (.iconst 4, 1) := by decide +kernel
theorem dX12_deal_130 : decode cX12_deal 130 = .ok (.aload_n 0, 1) := by decide +kernel
theorem dX12_deal_131 : decode cX12_deal 131 = .ok (.getfield 378, 3) := by decide +kernel
theorem dX12_deal_134 : decode cX12_deal 134 = .ok (.imul, 1) := by decide +kernel
theorem dX12_deal_135 : decode cX12_deal 135 = .ok (.iadd, 1) := by decide +kernel
theorem dX12_deal_136 : decode cX12_deal 136 = .ok (.iconst 0, 1) := by decide +kernel
theorem dX12_deal_137 : decode cX12_deal 137 = .ok (.iadd, 1) := by decide +kernel
theorem dX12_deal_138 : decode cX12_deal 138 = .ok (.iaload, 1) := by decide +kernel
theorem dX12_deal_177 : decode cX12_deal 177 = .ok (.aload_n 0, 1) := by decide +kernel
theorem dX12_deal_178 : decode cX12_deal 178 = .ok (.getfield 9, 3) := by decide +kernel
theorem dX12_deal_181 : decode cX12_deal 181 = .ok (.sipush 1552, 3) := by decide +kernel
theorem dX12_deal_184 : decode cX12_deal 184 = .ok (.iconst 4, 1) := by decide +kernel
theorem dX12_deal_185 : decode cX12_deal 185 = .ok (.aload_n 0, 1) := by decide +kernel
theorem dX12_deal_186 : decode cX12_deal 186 = .ok (.getfield 378, 3) := by decide +kernel
theorem dX12_deal_189 : decode cX12_deal 189 = .ok (.imul, 1) := by decide +kernel
theorem dX12_deal_190 : decode cX12_deal 190 = .ok (.iadd, 1) := by decide +kernel
theorem dX12_deal_191 : decode cX12_deal 191 = .ok (.iconst 2, 1) := by decide +kernel
theorem dX12_deal_192 : decode cX12_deal 192 = .ok (.iadd, 1) := by decide +kernel
theorem dX12_deal_193 : decode cX12_deal 193 = .ok (.iaload, 1) := by decide +kernel
theorem dX12_deal_19 : decode cX12_deal 19 = .ok (.iconst (-1), 1) := by decide +kernel
theorem dX12_deal_20 : decode cX12_deal 20 = .ok (.goto 8, 3) := by decide +kernel
theorem dX12_trace_0 : decode cX12_trace 0 = .ok (.iload_n 1, 1) := by decide +kernel
theorem dX12_trace_1 : decode cX12_trace 1 = .ok (.iconst 0, 1) := by decide +kernel
theorem dX12_trace_2 : decode cX12_trace 2 = .ok (.aload_n 0, 1) := by decide +kernel
theorem dX12_trace_3 : decode cX12_trace 3 = .ok (.getfield 351, 3) := by decide +kernel
theorem dX12_trace_6 : decode cX12_trace 6 = .ok (.iconst 1, 1) := by decide +kernel
theorem dX12_trace_7 : decode cX12_trace 7 = .ok (.isub, 1) := by decide +kernel
theorem dX12_trace_8 : decode cX12_trace 8 = .ok (.invokestatic 84, 3) := by decide +kernel
theorem dX12_trace_11 : decode cX12_trace 11 = .ok (.ifCond .eq 12, 3) := by decide +kernel
theorem dX12_trace_14 : decode cX12_trace 14 = .ok (.aload_n 0, 1) := by decide +kernel
theorem dX12_trace_15 : decode cX12_trace 15 = .ok (.getfield 81, 3) := by decide +kernel
theorem dX12_trace_18 : decode cX12_trace 18 = .ok (.iload_n 1, 1) := by decide +kernel
theorem dX12_trace_19 : decode cX12_trace 19 = .ok (.iaload, 1) := by decide +kernel
theorem dX12_trace_20 : decode cX12_trace 20 = .ok (.goto 5, 3) := by decide +kernel
theorem dX12_trace_25 : decode cX12_trace 25 = .ok (.ireturn, 1) := by decide +kernel
theorem dX12_trace_23 : decode cX12_trace 23 = .ok (.bipush (-3), 2) := by decide +kernel
theorem dX12_many_0 : decode cX12_many 0 = .ok (.iload_n 1, 1) := by decide +kernel
theorem dX12_many_1 : decode cX12_many 1 = .ok (.tableswitch 212 0 14 #[75, 82, 89, 96, 104, 112, 120, 128, 134, 142, 181, 189, 197, 202, 207], 75) := by decide +kernel
theorem dX12_many_76 : decode cX12_many 76 = .ok (.aload_n 0, 1) := by decide +kernel
theorem dX12_many_77 : decode cX12_many 77 = .ok (.getfield 9, 3) := by decide +kernel
theorem dX12_many_80 : decode cX12_many 80 = .ok (.iconst 0, 1) := by decide +kernel
theorem dX12_many_81 : decode cX12_many 81 = .ok (.iaload, 1) := by decide +kernel
theorem dX12_many_82 : decode cX12_many 82 = .ok (.ireturn, 1) := by decide +kernel
theorem dX12_many_83 : decode cX12_many 83 = .ok (.aload_n 0, 1) := by decide +kernel
theorem dX12_many_84 : decode cX12_many 84 = .ok (.getfield 9, 3) := by decide +kernel
theorem dX12_many_87 : decode cX12_many 87 = .ok (.iconst 4, 1) := by decide +kernel
theorem dX12_many_88 : decode cX12_many 88 = .ok (.iaload, 1) := by decide +kernel
theorem dX12_many_89 : decode cX12_many 89 = .ok (.ireturn, 1) := by decide +kernel
theorem dX12_many_90 : decode cX12_many 90 = .ok (.aload_n 0, 1) := by decide +kernel
theorem dX12_many_91 : decode cX12_many 91 = .ok (.getfield 9, 3) := by decide +kernel
theorem dX12_many_94 : decode cX12_many 94 = .ok (.iconst 5, 1) := by decide +kernel
theorem dX12_many_95 : decode cX12_many 95 = .ok (.iaload, 1) := by decide +kernel
theorem dX12_many_96 : decode cX12_many 96 = .ok (.ireturn, 1) := by decide +kernel
theorem dX12_many_97 : decode cX12_many 97 = .ok (.aload_n 0, 1) := by decide +kernel
theorem dX12_many_98 : decode cX12_many 98 = .ok (.invokevirtual 107, 3) := by decide +kernel
theorem dX12_many_101 : decode cX12_many 101 = .ok (.invokestatic 110, 3) := by decide +kernel
theorem dX12_many_104 : decode cX12_many 104 = .ok (.ireturn, 1) := by decide +kernel
theorem dX12_many_105 : decode cX12_many 105 = .ok (.aload_n 0, 1) := by decide +kernel
theorem dX12_many_106 : decode cX12_many 106 = .ok (.getfield 9, 3) := by decide +kernel
theorem dX12_many_109 : decode cX12_many 109 = .ok (.bipush 6, 2) := by decide +kernel
theorem dX12_many_111 : decode cX12_many 111 = .ok (.iaload, 1) := by decide +kernel
theorem dX12_many_112 : decode cX12_many 112 = .ok (.ireturn, 1) := by decide +kernel
theorem dX12_many_113 : decode cX12_many 113 = .ok (.aload_n 0, 1) := by decide +kernel
theorem dX12_many_114 : decode cX12_many 114 = .ok (.getfield 9, 3) := by decide +kernel
theorem dX12_many_117 : decode cX12_many 117 = .ok (.bipush 7, 2) := by decide +kernel
theorem dX12_many_119 : decode cX12_many 119 = .ok (.iaload, 1) := by decide +kernel
theorem dX12_many_120 : decode cX12_many 120 = .ok (.ireturn, 1) := by decide +kernel
theorem dX12_many_121 : decode cX12_many 121 = .ok (.aload_n 0, 1) := by decide +kernel
theorem dX12_many_122 : decode cX12_many 122 = .ok (.getfield 9, 3) := by decide +kernel
theorem dX12_many_125 : decode cX12_many 125 = .ok (.bipush 8, 2) := by decide +kernel
theorem dX12_many_127 : decode cX12_many 127 = .ok (.iaload, 1) := by decide +kernel
theorem dX12_many_128 : decode cX12_many 128 = .ok (.ireturn, 1) := by decide +kernel
theorem dX12_many_129 : decode cX12_many 129 = .ok (.aload_n 0, 1) := by decide +kernel
theorem dX12_many_130 : decode cX12_many 130 = .ok (.iconst (-1), 1) := by decide +kernel
theorem dX12_many_131 : decode cX12_many 131 = .ok (.invokevirtual 127, 3) := by decide +kernel
theorem dX12_many_134 : decode cX12_many 134 = .ok (.ireturn, 1) := by decide +kernel
theorem dX12_many_135 : decode cX12_many 135 = .ok (.aload_n 0, 1) := by decide +kernel
theorem dX12_many_136 : decode cX12_many 136 = .ok (.getfield 9, 3) := by decide +kernel
theorem dX12_many_139 : decode cX12_many 139 = .ok (.bipush 9, 2) := by decide +kernel
theorem dX12_many_141 : decode cX12_many 141 = .ok (.iaload, 1) := by decide +kernel
theorem dX12_many_142 : decode cX12_many 142 = .ok (.ireturn, 1) := by decide +kernel
theorem dX12_many_143 : decode cX12_many 143 = .ok (.iconst 0, 1) := by decide +kernel
theorem dX12_many_144 : decode cX12_many 144 = .ok (.istore_n 2, 1) := by decide +kernel
theorem dX12_many_145 : decode cX12_many 145 = .ok (.iconst 0, 1) := by decide +kernel
theorem dX12_many_146 : decode cX12_many 146 = .ok (.istore_n 3, 1) := by decide +kernel
theorem dX12_many_147 : decode cX12_many 147 = .ok (.iload_n 3, 1) := by decide +kernel
theorem dX12_many_148 : decode cX12_many 148 = .ok (.aload_n 0, 1) := by decide +kernel
theorem dX12_many_149 : decode cX12_many 149 = .ok (.getfield 9, 3) := by decide +kernel
theorem dX12_many_152 : decode cX12_many 152 = .ok (.bipush 9, 2) := by decide +kernel
theorem dX12_many_154 : decode cX12_many 154 = .ok (.iaload, 1) := by decide +kernel
theorem dX12_many_155 : decode cX12_many 155 = .ok (.if_icmp .ge 25, 3) := by decide +kernel
theorem dX12_many_180 : decode cX12_many 180 = .ok (.iload_n 2, 1) := by decide +kernel
theorem dX12_many_181 : decode cX12_many 181 = .ok (.ireturn, 1) := by decide +kernel
theorem dX12_many_158 : decode cX12_many 158 = .ok (.iload_n 2, 1) := by decide +kernel
theorem dX12_many_159 : decode cX12_many 159 = .ok (.aload_n 0, 1) := by decide +kernel
theorem dX12_many_160 : decode cX12_many 160 = .ok (.iload_n 3, 1) := by decide +kernel
theorem dX12_many_161 : decode cX12_many 161 = .ok (.invokevirtual 305, 3) := by decide +kernel
theorem dX12_many_164 : decode cX12_many 164 = .ok (.ifCond .eq 7, 3) := by decide +kernel
theorem dX12_many_167 : decode cX12_many 167 = .ok (.iconst 1, 1) := by decide +kernel
theorem dX12_many_168 : decode cX12_many 168 = .ok (.goto 4, 3) := by decide +kernel
theorem dX12_many_172 : decode cX12_many 172 = .ok (.iadd, 1) := by decide +kernel
theorem dX12_many_173 : decode cX12_many 173 = .ok (.istore_n 2, 1) := by decide +kernel
theorem dX12_many_174 : decode cX12_many 174 = .ok (.iinc 3 1, 3) := by decide +kernel
theorem dX12_many_177 : decode cX12_many 177 = .ok (.goto (-30), 3) := by decide +kernel
theorem dX12_many_171 : decode cX12_many 171 = .ok (.iconst 0, 1) := by decide +kernel
theorem dX12_many_182 : decode cX12_many 182 = .ok (.aload_n 0, 1) := by decide +kernel
theorem dX12_many_183 : decode cX12_many 183 = .ok (.getfield 9, 3) := by decide +kernel
theorem dX12_many_186 : decode cX12_many 186 = .ok (.bipush 10, 2) := by decide +kernel
theorem dX12_many_188 : decode cX12_many 188 = .ok (.iaload, 1) := by decide +kernel
theorem dX12_many_189 : decode cX12_many 189 = .ok (.ireturn, 1) := by decide +kernel
theorem dX12_many_190 : decode cX12_many 190 = .ok (.aload_n 0, 1) := by decide +kernel
theorem dX12_many_191 : decode cX12_many 191 = .ok (.getfield 9, 3) := by decide +kernel
theorem dX12_many_194 : decode cX12_many 194 = .ok (.bipush 11, 2) := by decide +kernel
theorem dX12_many_196 : decode cX12_many 196 = .ok (.iaload, 1) := by decide +kernel
theorem dX12_many_197 : decode cX12_many 197 = .ok (.ireturn, 1) := by decide +kernel
theorem dX12_many_198 : decode cX12_many 198 = .ok (.aload_n 0, 1) := by decide +kernel
theorem dX12_many_199 : decode cX12_many 199 = .ok (.getfield 327, 3) := by decide +kernel
theorem dX12_many_202 : decode cX12_many 202 = .ok (.ireturn, 1) := by decide +kernel
theorem dX12_many_203 : decode cX12_many 203 = .ok (.aload_n 0, 1) := by decide +kernel
theorem dX12_many_204 : decode cX12_many 204 = .ok (.getfield 206, 3) := by decide +kernel
theorem m_750 : Cond.fieldLink RX12 206 "InquiryBenchModel" "taped" "I" ∈ BW := List.mem_of_getElem? (i := 750) (by decide +kernel)
theorem gf_X12_206 (hC : CX p s m meth c y0 b0 mL0 rt0 args) (hy0 : y0.cls = RX12) (hK : KK G s) (hP : va_P G.1 vwCl ws H) (q0 : Nat) {fs : List Value} {v : Value} (he : ws[q0]? = some (a, .inr (12, fs))) (hv : fs[4]? = some v) (hdg : decode b0 pc = .ok (.getfield 206, 3)) (kk : W p l e R s m args below meth c H locs cells slots Q (F0 m (pc + 3) ls (v :: rest))) : W p l e R s m args below meth c H locs cells slots Q (F0 m pc ls (.ref a :: rest)) := by
  obtain ⟨hx, hb, hr, hml, hB, hown, hlocks, hnm⟩ := hC
  rw [hy0] at hown
  exact va_get (ci := 12) (C := RX12) (T := TX12) (N := 41) hx hb hB in_X12 hown hK.1 hP q0 he rfl 4 (by decide) (hB _ m_750) (fun _ h => h) hv hdg kk
theorem dX12_many_207 : decode cX12_many 207 = .ok (.ireturn, 1) := by decide +kernel
theorem dX12_many_208 : decode cX12_many 208 = .ok (.aload_n 0, 1) := by decide +kernel
theorem dX12_many_209 : decode cX12_many 209 = .ok (.getfield 351, 3) := by decide +kernel
theorem dX12_many_212 : decode cX12_many 212 = .ok (.ireturn, 1) := by decide +kernel
theorem dX12_many_213 : decode cX12_many 213 = .ok (.iconst (-1), 1) := by decide +kernel
theorem dX12_many_214 : decode cX12_many 214 = .ok (.ireturn, 1) := by decide +kernel
theorem dX12_keep_0 : decode cX12_keep 0 = .ok (.iconst 0, 1) := by decide +kernel
theorem dX12_keep_1 : decode cX12_keep 1 = .ok (.istore_n 1, 1) := by decide +kernel
theorem dX12_keep_2 : decode cX12_keep 2 = .ok (.iload_n 1, 1) := by decide +kernel
theorem dX12_keep_3 : decode cX12_keep 3 = .ok (.sipush 1662, 3) := by decide +kernel
theorem dX12_keep_6 : decode cX12_keep 6 = .ok (.if_icmp .ge 21, 3) := by decide +kernel
theorem dX12_keep_27 : decode cX12_keep 27 = .ok (.aload_n 0, 1) := by decide +kernel
theorem dX12_keep_28 : decode cX12_keep 28 = .ok (.iconst 1, 1) := by decide +kernel
theorem dX12_keep_29 : decode cX12_keep 29 = .ok (.putfield 383, 3) := by decide +kernel
theorem m_1420 : Cond.fieldLink RX12 383 "InquiryBenchModel" "hasKept" "Z" ∈ BW := List.mem_of_getElem? (i := 1420) (by decide +kernel)
theorem pf_X12_383 (hC : CX p s m meth c y0 b0 mL0 rt0 args) (hy0 : y0.cls = RX12) (hK : KK G s) (hP : va_P G.1 vwCl ws H) (hD : va_D A ws) (hS : va_S A H0 H locs) (q0 : Nat) {fs : List Value} {v : Value} {ws' : va_W} (he : ws[q0]? = some (a, .inr (12, fs))) (hl : 2 < fs.length) (hws : ws.set q0 (a, .inr (12, fs.set 2 v)) = ws') (hn : narrow .boolean v = v) (hfit : fits .boolean v = true) (hdg : decode b0 pc = .ok (.putfield 383, 3)) (kk : ∀ (H1 : Heap) (locs1 : List Loc), va_P G.1 vwCl ws' H1 → va_D A ws' → va_S A H0 H1 locs1 → W p l e R s m args below meth c H1 locs1 cells slots Q (F0 m (pc + 3) ls rest)) : W p l e R s m args below meth c H locs cells slots Q (F0 m pc ls (v :: .ref a :: rest)) := by
  obtain ⟨hx, hb, hr, hml, hB, hown, hlocks, hnm⟩ := hC
  rw [hy0] at hown
  subst hws
  exact va_put (ci := 12) (ty := .boolean) (C := RX12) (T := TX12) (N := 41) hx hb hB in_X12 tyX12 tyX12_ok nmX12 hown hK.1 hP hD hS q0 he rfl 2 (by decide) (hB _ m_1420) (fun _ h => h) rfl (by decide +kernel) hn hfit hl hdg kk
theorem dX12_keep_32 : decode cX12_keep 32 = .ok (.iconst 1, 1) := by decide +kernel
theorem dX12_keep_33 : decode cX12_keep 33 = .ok (.ireturn, 1) := by decide +kernel
theorem dX12_keep_9 : decode cX12_keep 9 = .ok (.aload_n 0, 1) := by decide +kernel
theorem dX12_keep_10 : decode cX12_keep 10 = .ok (.getfield 13, 3) := by decide +kernel
theorem m_188 : Cond.fieldLink RX12 13 "InquiryBenchModel" "kept" "[I" ∈ BW := List.mem_of_getElem? (i := 188) (by decide +kernel)
theorem gf_X12_13 (hC : CX p s m meth c y0 b0 mL0 rt0 args) (hy0 : y0.cls = RX12) (hK : KK G s) (hP : va_P G.1 vwCl ws H) (q0 : Nat) {fs : List Value} {v : Value} (he : ws[q0]? = some (a, .inr (12, fs))) (hv : fs[1]? = some v) (hdg : decode b0 pc = .ok (.getfield 13, 3)) (kk : W p l e R s m args below meth c H locs cells slots Q (F0 m (pc + 3) ls (v :: rest))) : W p l e R s m args below meth c H locs cells slots Q (F0 m pc ls (.ref a :: rest)) := by
  obtain ⟨hx, hb, hr, hml, hB, hown, hlocks, hnm⟩ := hC
  rw [hy0] at hown
  exact va_get (ci := 12) (C := RX12) (T := TX12) (N := 41) hx hb hB in_X12 hown hK.1 hP q0 he rfl 1 (by decide) (hB _ m_188) (fun _ h => h) hv hdg kk
theorem dX12_keep_13 : decode cX12_keep 13 = .ok (.iload_n 1, 1) := by decide +kernel
theorem dX12_keep_14 : decode cX12_keep 14 = .ok (.aload_n 0, 1) := by decide +kernel
theorem dX12_keep_15 : decode cX12_keep 15 = .ok (.getfield 9, 3) := by decide +kernel
theorem dX12_keep_18 : decode cX12_keep 18 = .ok (.iload_n 1, 1) := by decide +kernel
theorem dX12_keep_19 : decode cX12_keep 19 = .ok (.iaload, 1) := by decide +kernel
theorem dX12_keep_20 : decode cX12_keep 20 = .ok (.iastore, 1) := by decide +kernel
theorem dX12_keep_21 : decode cX12_keep 21 = .ok (.iinc 1 1, 3) := by decide +kernel
theorem dX12_keep_24 : decode cX12_keep 24 = .ok (.goto (-22), 3) := by decide +kernel
theorem dX12_again_0 : decode cX12_again 0 = .ok (.aload_n 0, 1) := by decide +kernel
theorem dX12_again_1 : decode cX12_again 1 = .ok (.getfield 383, 3) := by decide +kernel
theorem gf_X12_383 (hC : CX p s m meth c y0 b0 mL0 rt0 args) (hy0 : y0.cls = RX12) (hK : KK G s) (hP : va_P G.1 vwCl ws H) (q0 : Nat) {fs : List Value} {v : Value} (he : ws[q0]? = some (a, .inr (12, fs))) (hv : fs[2]? = some v) (hdg : decode b0 pc = .ok (.getfield 383, 3)) (kk : W p l e R s m args below meth c H locs cells slots Q (F0 m (pc + 3) ls (v :: rest))) : W p l e R s m args below meth c H locs cells slots Q (F0 m pc ls (.ref a :: rest)) := by
  obtain ⟨hx, hb, hr, hml, hB, hown, hlocks, hnm⟩ := hC
  rw [hy0] at hown
  exact va_get (ci := 12) (C := RX12) (T := TX12) (N := 41) hx hb hB in_X12 hown hK.1 hP q0 he rfl 2 (by decide) (hB _ m_1420) (fun _ h => h) hv hdg kk
theorem dX12_again_4 : decode cX12_again 4 = .ok (.ifCond .ne 6, 3) := by decide +kernel
theorem dX12_again_7 : decode cX12_again 7 = .ok (.bipush (-3), 2) := by decide +kernel
theorem dX12_again_9 : decode cX12_again 9 = .ok (.ireturn, 1) := by decide +kernel
theorem dX12_again_10 : decode cX12_again 10 = .ok (.iconst 0, 1) := by decide +kernel
theorem dX12_again_11 : decode cX12_again 11 = .ok (.istore_n 1, 1) := by decide +kernel
theorem dX12_again_12 : decode cX12_again 12 = .ok (.iload_n 1, 1) := by decide +kernel
theorem dX12_again_13 : decode cX12_again 13 = .ok (.sipush 1662, 3) := by decide +kernel
theorem dX12_again_16 : decode cX12_again 16 = .ok (.if_icmp .ge 21, 3) := by decide +kernel
theorem dX12_again_37 : decode cX12_again 37 = .ok (.iconst 1, 1) := by decide +kernel
theorem dX12_again_38 : decode cX12_again 38 = .ok (.ireturn, 1) := by decide +kernel
theorem dX12_again_19 : decode cX12_again 19 = .ok (.aload_n 0, 1) := by decide +kernel
theorem dX12_again_20 : decode cX12_again 20 = .ok (.getfield 9, 3) := by decide +kernel
theorem dX12_again_23 : decode cX12_again 23 = .ok (.iload_n 1, 1) := by decide +kernel
theorem dX12_again_24 : decode cX12_again 24 = .ok (.aload_n 0, 1) := by decide +kernel
theorem dX12_again_25 : decode cX12_again 25 = .ok (.getfield 13, 3) := by decide +kernel
theorem dX12_again_28 : decode cX12_again 28 = .ok (.iload_n 1, 1) := by decide +kernel
theorem dX12_again_29 : decode cX12_again 29 = .ok (.iaload, 1) := by decide +kernel
theorem dX12_again_30 : decode cX12_again 30 = .ok (.iastore, 1) := by decide +kernel
theorem dX12_again_31 : decode cX12_again 31 = .ok (.iinc 1 1, 3) := by decide +kernel
theorem dX12_again_34 : decode cX12_again 34 = .ok (.goto (-22), 3) := by decide +kernel
end WR
set_option maxHeartbeats 4000000 in
set_option maxRecDepth 100000 in
theorem m_kindOn (l : Launch) (G : GG) (h0 : Nat) (jt : Nat) (nw : Nat) (nk : Nat) (mhasKept : Int32) (nt : Nat) (mtaped : Int32) (nr : Nat) (mrowMany : Int32) (mroundOf : Int32) (mroundFrom : Int32) (mouts : Int32) (nm : Nat) (mfromHour : Int32) (mtoHour : Int32) (ns : Nat) (mfrom : Int32) (mto : Int32) (msort : Int32) (misFault : Int32) (mdeep : Int32) (mcoded : Int32) (mlines : Int32) (nl : Nat) (nc : Nat) (nF : Nat) (np : Nat) (ntr : Nat) (nb : Nat) (mbestCost : Int32) (nso : Nat) (nsi : Nat) (nit : Nat) (nsh : Nat) (nsf : Nat) (nss : Nat) (nrc : Nat) (mtraced : Int32) (mdealer : Int32) (mnumber : Int32) (mwhose : Int32) (msize : Int32) (misParted : Int32) (fnw : Nat → Int32) (fnsh : Nat → Int32) (fnsf : Nat → Int32) (hjt : jt < 4) (hN : NI fnw) : MP l G yX12_kindOn cX12_kindOn 4 (some .int) 3 [.ref h0, .int (nI jt)] [(h0, .inr (12, [.ref nw, .ref nk, .int mhasKept, .ref nt, .int mtaped, .ref nr, .int mrowMany, .int mroundOf, .int mroundFrom, .int mouts, .ref nm, .int mfromHour, .int mtoHour, .ref ns, .int mfrom, .int mto, .int msort, .int misFault, .int mdeep, .int mcoded, .int mlines, .ref nl, .ref nc, .ref nF, .ref np, .ref ntr, .ref nb, .int mbestCost, .ref nso, .ref nsi, .ref nit, .ref nsh, .ref nsf, .ref nss, .ref nrc, .int mtraced, .int mdealer, .int mnumber, .int mwhose, .int msize, .int misParted])), (nw, .inl (G.2.1, 1662, .inl fnw)), (nsh, .inl (G.2.1, 4, .inl fnsh)), (nsf, .inl (G.2.1, 4, .inl fnsf))] (fun r : Int32 => r = (-1) ∨ (r = 1 ∧ KO1 (fnsh jt) (fnsf jt) 1 12) ∨ (r = 2 ∧ KO1 (fnsh jt) (fnsf jt) 1 12) ∨ (r = 3 ∧ KO1 (fnsh jt) (fnsf jt) 1 12) ∨ (r = 4 ∧ KO1 (fnsh jt) (fnsf jt) 2 16) ∨ (r = 5 ∧ KO1 (fnsh jt) (fnsf jt) 2 16) ∨ (r = 6 ∧ KO1 (fnsh jt) (fnsf jt) 3 12)) := by
  refine MP.start (by decide +kernel) (Nat.le_of_ble_eq_true rfl) ?_
  intro p e s m below meth c ls hC hK hP hD hl
  have hl : lv_has ls 4 [(0, .ref h0), (1, .int (nI jt))] := hl
  obtain ⟨hx, hb, hr, hml, hB, hown, hlocks, hnm⟩ := id hC
  obtain ⟨kq, hkq, ekq⟩ := NI.nat hN (i := 5) (B := 12) (by decide +kernel) (by decide)
  obtain ⟨k8, hk8, ek8⟩ := NI.nat hN (i := 8) (B := 16) (by decide +kernel) (by decide)
  obtain ⟨k9, hk9, ek9⟩ := NI.nat hN (i := 9) (B := 12) (by decide +kernel) (by decide)
  refine lv_aload_n hx hb dX12_kindOn_0 rfl (lv_at hl 0 rfl) ?_
  refine gf_X12_75 hC rfl hK hP 0 rfl rfl dX12_kindOn_1 ?_
  refine lv_iload_n hx hb dX12_kindOn_4 rfl (lv_at hl 1 rfl) ?_
  refine ald hC hK hP 3 rfl (vp_in_nI (by omega) (by omega)) (k := jt) (nI_clamp (by omega)) (v := fnsf jt) rfl dX12_kindOn_5 ?_
  refine lv_topi (fun x5780 ex5780 => ?_)
  refine lv_istore_n (lv' := [(2, .int x5780), (0, .ref h0), (1, .int (nI jt))]) hx hb dX12_kindOn_6 rfl hl (by decide) rfl (fun ls hl => ?_)
  refine lv_aload_n hx hb dX12_kindOn_7 rfl (lv_at hl 1 rfl) ?_
  refine gf_X12_72 hC rfl hK hP 0 rfl rfl dX12_kindOn_8 ?_
  refine lv_iload_n hx hb dX12_kindOn_11 rfl (lv_at hl 2 rfl) ?_
  refine ald hC hK hP 2 rfl (vp_in_nI (by omega) (by omega)) (k := jt) (nI_clamp (by omega)) (v := fnsh jt) rfl dX12_kindOn_12 ?_
  refine lv_topi (fun x5781 ex5781 => ?_)
  by_cases c_13_5782 : x5781 = 1
  · refine lv_tableIn (tgt := 40) hx hb dX12_kindOn_13 (by rw [c_13_5782]; decide) (by rw [c_13_5782]; decide) (by rw [c_13_5782]; rfl) (by decide) ?_
    refine lv_aload_n hx hb dX12_kindOn_40 rfl (lv_at hl 1 rfl) ?_
    refine lv_iload_n hx hb dX12_kindOn_41 rfl (lv_at hl 0 rfl) ?_
    refine lv_iconst (v := 5) hx hb dX12_kindOn_42 (by decide) ?_
    refine pV hC hK hl hP hD (m_is l G kq h0 x5780 5 nw nk mhasKept nt mtaped nr mrowMany mroundOf mroundFrom mouts nm mfromHour mtoHour ns mfrom mto msort misFault mdeep mcoded mlines nl nc nF np ntr nb mbestCost nso nsi nit nsh nsf nss nrc mtraced mdealer mnumber mwhose msize misParted fnw (by omega) (ekq) (by omega)) si_X12_120 [0, 1] rfl rfl (by decide) rfl rfl rfl rfl rfl (Nat.le_of_ble_eq_true rfl) ⟨Nat.le_of_ble_eq_true rfl, Nat.le_of_ble_eq_true rfl⟩ ⟨by first | exact Nat.le_of_ble_eq_true rfl | exact Nat.zero_le _, by first | exact Nat.le_of_ble_eq_true rfl | exact Nat.zero_le _⟩ dX12_kindOn_43 (fun r5783 hr5783 => ?_)
    rcases hr5783 with ⟨rfl, a5784⟩ | ⟨rfl, a5784⟩
    · refine lv_if_eq (tgt := 73) hx hb dX12_kindOn_46 (by decide) (fun c9 => absurd c9 (by decide)) (fun _ => ?_)
      refine lv_aload_n hx hb dX12_kindOn_49 rfl (lv_at hl 1 rfl) ?_
      refine lv_iload_n hx hb dX12_kindOn_50 rfl (lv_at hl 0 rfl) ?_
      obtain ⟨jn5785, hjn5785, ek5785⟩ := Hs_nat (by omega) a5784
      refine eqi (x1 := nI jn5785) ek5785 ?_
      refine lv_iconst (v := 1) hx hb dX12_kindOn_51 (by decide) ?_
      refine pV hC hK hl hP hD (m_paper l G h0 jn5785 1 nw nk mhasKept nt mtaped nr mrowMany mroundOf mroundFrom mouts nm mfromHour mtoHour ns mfrom mto msort misFault mdeep mcoded mlines nl nc nF np ntr nb mbestCost nso nsi nit nsh nsf nss nrc mtraced mdealer mnumber mwhose msize misParted fnw (by omega) (by omega)) si_X12_88 [0, 1] rfl rfl (by decide) rfl rfl rfl rfl rfl (Nat.le_of_ble_eq_true rfl) ⟨Nat.le_of_ble_eq_true rfl, Nat.le_of_ble_eq_true rfl⟩ ⟨by first | exact Nat.le_of_ble_eq_true rfl | exact Nat.zero_le _, by first | exact Nat.le_of_ble_eq_true rfl | exact Nat.zero_le _⟩ dX12_kindOn_52 (fun r5786 hr5786 => ?_)
      obtain rfl := hr5786
      refine lv_iconst (v := 1) hx hb dX12_kindOn_55 (by decide) ?_
      refine lv_aload_n hx hb dX12_kindOn_56 rfl (lv_at hl 1 rfl) ?_
      refine lv_iload_n hx hb dX12_kindOn_57 rfl (lv_at hl 0 rfl) ?_
      obtain ⟨jn5788, hjn5788, ek5788⟩ := Hs_nat (by omega) a5784
      refine eqi (x1 := nI jn5788) ek5788 ?_
      refine lv_iconst (v := 0) hx hb dX12_kindOn_58 (by decide) ?_
      refine pV hC hK hl hP hD (m_paper l G h0 jn5788 0 nw nk mhasKept nt mtaped nr mrowMany mroundOf mroundFrom mouts nm mfromHour mtoHour ns mfrom mto msort misFault mdeep mcoded mlines nl nc nF np ntr nb mbestCost nso nsi nit nsh nsf nss nrc mtraced mdealer mnumber mwhose msize misParted fnw (by omega) (by omega)) si_X12_88 [0, 1] rfl rfl (by decide) rfl rfl rfl rfl rfl (Nat.le_of_ble_eq_true rfl) ⟨Nat.le_of_ble_eq_true rfl, Nat.le_of_ble_eq_true rfl⟩ ⟨by first | exact Nat.le_of_ble_eq_true rfl | exact Nat.zero_le _, by first | exact Nat.le_of_ble_eq_true rfl | exact Nat.zero_le _⟩ dX12_kindOn_59 (fun r5789 hr5789 => ?_)
      obtain rfl := hr5789
      refine lv_ishl hx hb dX12_kindOn_62 ?_
      refine lv_iconst (v := (-1)) hx hb dX12_kindOn_63 (by decide) ?_
      refine lv_ixor hx hb dX12_kindOn_64 ?_
      refine lv_iand hx hb dX12_kindOn_65 ?_
      refine lv_if_eq (tgt := 73) hx hb dX12_kindOn_66 (by decide) (fun c_66_5791 => ?_) (fun c_66_5791 => ?_)
      · refine lv_iconst (v := 0) hx hb dX12_kindOn_73 (by decide) ?_
        refine lv_istore_n (lv' := [(3, .int 0), (2, .int x5780), (0, .ref h0), (1, .int (nI jt))]) hx hb dX12_kindOn_74 rfl hl (by decide) rfl (fun ls hl => ?_)
        refine lv_aload_n hx hb dX12_kindOn_75 rfl (lv_at hl 2 rfl) ?_
        refine lv_iload_n hx hb dX12_kindOn_76 rfl (lv_at hl 1 rfl) ?_
        refine lv_iconst (v := 5) hx hb dX12_kindOn_77 (by decide) ?_
        refine pV hC hK hl hP hD (m_is l G kq h0 x5780 5 nw nk mhasKept nt mtaped nr mrowMany mroundOf mroundFrom mouts nm mfromHour mtoHour ns mfrom mto msort misFault mdeep mcoded mlines nl nc nF np ntr nb mbestCost nso nsi nit nsh nsf nss nrc mtraced mdealer mnumber mwhose msize misParted fnw (by omega) (ekq) (by omega)) si_X12_120 [0, 1] rfl rfl (by decide) rfl rfl rfl rfl rfl (Nat.le_of_ble_eq_true rfl) ⟨Nat.le_of_ble_eq_true rfl, Nat.le_of_ble_eq_true rfl⟩ ⟨by first | exact Nat.le_of_ble_eq_true rfl | exact Nat.zero_le _, by first | exact Nat.le_of_ble_eq_true rfl | exact Nat.zero_le _⟩ dX12_kindOn_78 (fun r5792 hr5792 => ?_)
        rcases hr5792 with ⟨rfl, a5793⟩ | ⟨rfl, a5793⟩
        · refine lv_if_ne (tgt := 88) hx hb dX12_kindOn_81 (by decide) (fun _ => ?_) (fun c9 => absurd c9 (by decide))
          refine lv_iload_n hx hb dX12_kindOn_88 rfl (lv_at hl 0 rfl) ?_
          refine lv_if_ne (tgt := 96) hx hb dX12_kindOn_89 (by decide) (fun c9 => absurd (by decide) c9) (fun _ => ?_)
          refine lv_iconst (v := 2) hx hb dX12_kindOn_92 (by decide) ?_
          refine lv_goto (tgt := 110) hx hb dX12_kindOn_93 (by decide) ?_
          exact RP (v := 2) hC (Or.inr (Or.inr (Or.inl (⟨rfl, KO1.mk (kk := kq) (by omega) (by omega) ex5781 ex5780 c_13_5782 a5793⟩)))) rfl dX12_kindOn_110
        · exact absurd a5784 a5793
      · refine lv_iconst (v := 1) hx hb dX12_kindOn_69 (by decide) ?_
        refine lv_goto (tgt := 74) hx hb dX12_kindOn_70 (by decide) ?_
        refine lv_istore_n (lv' := [(3, .int 1), (2, .int x5780), (0, .ref h0), (1, .int (nI jt))]) hx hb dX12_kindOn_74 rfl hl (by decide) rfl (fun ls hl => ?_)
        refine lv_aload_n hx hb dX12_kindOn_75 rfl (lv_at hl 2 rfl) ?_
        refine lv_iload_n hx hb dX12_kindOn_76 rfl (lv_at hl 1 rfl) ?_
        refine lv_iconst (v := 5) hx hb dX12_kindOn_77 (by decide) ?_
        refine pV hC hK hl hP hD (m_is l G kq h0 x5780 5 nw nk mhasKept nt mtaped nr mrowMany mroundOf mroundFrom mouts nm mfromHour mtoHour ns mfrom mto msort misFault mdeep mcoded mlines nl nc nF np ntr nb mbestCost nso nsi nit nsh nsf nss nrc mtraced mdealer mnumber mwhose msize misParted fnw (by omega) (ekq) (by omega)) si_X12_120 [0, 1] rfl rfl (by decide) rfl rfl rfl rfl rfl (Nat.le_of_ble_eq_true rfl) ⟨Nat.le_of_ble_eq_true rfl, Nat.le_of_ble_eq_true rfl⟩ ⟨by first | exact Nat.le_of_ble_eq_true rfl | exact Nat.zero_le _, by first | exact Nat.le_of_ble_eq_true rfl | exact Nat.zero_le _⟩ dX12_kindOn_78 (fun r5794 hr5794 => ?_)
        rcases hr5794 with ⟨rfl, a5795⟩ | ⟨rfl, a5795⟩
        · refine lv_if_ne (tgt := 88) hx hb dX12_kindOn_81 (by decide) (fun _ => ?_) (fun c9 => absurd c9 (by decide))
          refine lv_iload_n hx hb dX12_kindOn_88 rfl (lv_at hl 0 rfl) ?_
          refine lv_if_ne (tgt := 96) hx hb dX12_kindOn_89 (by decide) (fun _ => ?_) (fun c9 => absurd c9 (by decide))
          refine lv_aload_n hx hb dX12_kindOn_96 rfl (lv_at hl 2 rfl) ?_
          refine lv_iload_n hx hb dX12_kindOn_97 rfl (lv_at hl 1 rfl) ?_
          obtain ⟨jn5796, hjn5796, ek5796⟩ := Hs_nat (by omega) a5795
          refine eqi (x1 := nI jn5796) ek5796 ?_
          refine lv_iconst (v := 3) hx hb dX12_kindOn_98 (by decide) ?_
          refine pV hC hK hl hP hD (m_paper l G h0 jn5796 3 nw nk mhasKept nt mtaped nr mrowMany mroundOf mroundFrom mouts nm mfromHour mtoHour ns mfrom mto msort misFault mdeep mcoded mlines nl nc nF np ntr nb mbestCost nso nsi nit nsh nsf nss nrc mtraced mdealer mnumber mwhose msize misParted fnw (by omega) (by omega)) si_X12_88 [0, 1] rfl rfl (by decide) rfl rfl rfl rfl rfl (Nat.le_of_ble_eq_true rfl) ⟨Nat.le_of_ble_eq_true rfl, Nat.le_of_ble_eq_true rfl⟩ ⟨by first | exact Nat.le_of_ble_eq_true rfl | exact Nat.zero_le _, by first | exact Nat.le_of_ble_eq_true rfl | exact Nat.zero_le _⟩ dX12_kindOn_99 (fun r5797 hr5797 => ?_)
          obtain rfl := hr5797
          refine lv_if_le (tgt := 109) hx hb dX12_kindOn_102 (by decide) (fun c_102_5799 => ?_) (fun c_102_5799 => ?_)
          · refine lv_iconst (v := 1) hx hb dX12_kindOn_109 (by decide) ?_
            exact RP (v := 1) hC (Or.inr (Or.inl (⟨rfl, KO1.mk (kk := kq) (by omega) (by omega) ex5781 ex5780 c_13_5782 a5795⟩))) rfl dX12_kindOn_110
          · refine lv_iconst (v := 3) hx hb dX12_kindOn_105 (by decide) ?_
            refine lv_goto (tgt := 110) hx hb dX12_kindOn_106 (by decide) ?_
            exact RP (v := 3) hC (Or.inr (Or.inr (Or.inr (Or.inl (⟨rfl, KO1.mk (kk := kq) (by omega) (by omega) ex5781 ex5780 c_13_5782 a5795⟩))))) rfl dX12_kindOn_110
        · exact absurd a5784 a5795
    · refine lv_if_eq (tgt := 73) hx hb dX12_kindOn_46 (by decide) (fun _ => ?_) (fun c9 => absurd (by decide) c9)
      refine lv_iconst (v := 0) hx hb dX12_kindOn_73 (by decide) ?_
      refine lv_istore_n (lv' := [(3, .int 0), (2, .int x5780), (0, .ref h0), (1, .int (nI jt))]) hx hb dX12_kindOn_74 rfl hl (by decide) rfl (fun ls hl => ?_)
      refine lv_aload_n hx hb dX12_kindOn_75 rfl (lv_at hl 2 rfl) ?_
      refine lv_iload_n hx hb dX12_kindOn_76 rfl (lv_at hl 1 rfl) ?_
      refine lv_iconst (v := 5) hx hb dX12_kindOn_77 (by decide) ?_
      refine pV hC hK hl hP hD (m_is l G kq h0 x5780 5 nw nk mhasKept nt mtaped nr mrowMany mroundOf mroundFrom mouts nm mfromHour mtoHour ns mfrom mto msort misFault mdeep mcoded mlines nl nc nF np ntr nb mbestCost nso nsi nit nsh nsf nss nrc mtraced mdealer mnumber mwhose msize misParted fnw (by omega) (ekq) (by omega)) si_X12_120 [0, 1] rfl rfl (by decide) rfl rfl rfl rfl rfl (Nat.le_of_ble_eq_true rfl) ⟨Nat.le_of_ble_eq_true rfl, Nat.le_of_ble_eq_true rfl⟩ ⟨by first | exact Nat.le_of_ble_eq_true rfl | exact Nat.zero_le _, by first | exact Nat.le_of_ble_eq_true rfl | exact Nat.zero_le _⟩ dX12_kindOn_78 (fun r5800 hr5800 => ?_)
      rcases hr5800 with ⟨rfl, a5801⟩ | ⟨rfl, a5801⟩
      · exact absurd a5801 a5784
      · refine lv_if_ne (tgt := 88) hx hb dX12_kindOn_81 (by decide) (fun c9 => absurd (by decide) c9) (fun _ => ?_)
        refine lv_iconst (v := (-1)) hx hb dX12_kindOn_84 (by decide) ?_
        refine lv_goto (tgt := 110) hx hb dX12_kindOn_85 (by decide) ?_
        exact RP (v := (-1)) hC (Or.inl (rfl)) rfl dX12_kindOn_110
  by_cases c_13_5802 : x5781 = 2
  · refine lv_tableIn (tgt := 111) hx hb dX12_kindOn_13 (by rw [c_13_5802]; decide) (by rw [c_13_5802]; decide) (by rw [c_13_5802]; rfl) (by decide) ?_
    refine lv_aload_n hx hb dX12_kindOn_111 rfl (lv_at hl 1 rfl) ?_
    refine lv_iload_n hx hb dX12_kindOn_112 rfl (lv_at hl 0 rfl) ?_
    refine lv_bipush (v := 8) hx hb dX12_kindOn_113 (by decide) ?_
    refine pV hC hK hl hP hD (m_is l G k8 h0 x5780 8 nw nk mhasKept nt mtaped nr mrowMany mroundOf mroundFrom mouts nm mfromHour mtoHour ns mfrom mto msort misFault mdeep mcoded mlines nl nc nF np ntr nb mbestCost nso nsi nit nsh nsf nss nrc mtraced mdealer mnumber mwhose msize misParted fnw (by omega) (ek8) (by omega)) si_X12_120 [0, 1] rfl rfl (by decide) rfl rfl rfl rfl rfl (Nat.le_of_ble_eq_true rfl) ⟨Nat.le_of_ble_eq_true rfl, Nat.le_of_ble_eq_true rfl⟩ ⟨by first | exact Nat.le_of_ble_eq_true rfl | exact Nat.zero_le _, by first | exact Nat.le_of_ble_eq_true rfl | exact Nat.zero_le _⟩ dX12_kindOn_115 (fun r5803 hr5803 => ?_)
    rcases hr5803 with ⟨rfl, a5804⟩ | ⟨rfl, a5804⟩
    · refine lv_if_ne (tgt := 125) hx hb dX12_kindOn_118 (by decide) (fun _ => ?_) (fun c9 => absurd c9 (by decide))
      refine lv_aload_n hx hb dX12_kindOn_125 rfl (lv_at hl 1 rfl) ?_
      refine lv_iload_n hx hb dX12_kindOn_126 rfl (lv_at hl 0 rfl) ?_
      obtain ⟨jn5805, hjn5805, ek5805⟩ := Hs_nat (by omega) a5804
      refine eqi (x1 := nI jn5805) ek5805 ?_
      refine lv_bipush (v := 6) hx hb dX12_kindOn_127 (by decide) ?_
      refine pV hC hK hl hP hD (m_saying l G h0 jn5805 6 nw nk mhasKept nt mtaped nr mrowMany mroundOf mroundFrom mouts nm mfromHour mtoHour ns mfrom mto msort misFault mdeep mcoded mlines nl nc nF np ntr nb mbestCost nso nsi nit nsh nsf nss nrc mtraced mdealer mnumber mwhose msize misParted fnw (by omega) (by omega)) si_X12_114 [0, 1] rfl rfl (by decide) rfl rfl rfl rfl rfl (Nat.le_of_ble_eq_true rfl) ⟨Nat.le_of_ble_eq_true rfl, Nat.le_of_ble_eq_true rfl⟩ ⟨by first | exact Nat.le_of_ble_eq_true rfl | exact Nat.zero_le _, by first | exact Nat.le_of_ble_eq_true rfl | exact Nat.zero_le _⟩ dX12_kindOn_129 (fun r5806 hr5806 => ?_)
      obtain rfl := hr5806
      refine lv_if_ge (tgt := 139) hx hb dX12_kindOn_132 (by decide) (fun c_132_5808 => ?_) (fun c_132_5808 => ?_)
      · refine lv_iconst (v := 4) hx hb dX12_kindOn_139 (by decide) ?_
        exact RP (v := 4) hC (Or.inr (Or.inr (Or.inr (Or.inr (Or.inl (⟨rfl, KO1.mk (kk := k8) (by omega) (by omega) ex5781 ex5780 c_13_5802 a5804⟩)))))) rfl dX12_kindOn_140
      · refine lv_iconst (v := 5) hx hb dX12_kindOn_135 (by decide) ?_
        refine lv_goto (tgt := 140) hx hb dX12_kindOn_136 (by decide) ?_
        exact RP (v := 5) hC (Or.inr (Or.inr (Or.inr (Or.inr (Or.inr (Or.inl (⟨rfl, KO1.mk (kk := k8) (by omega) (by omega) ex5781 ex5780 c_13_5802 a5804⟩))))))) rfl dX12_kindOn_140
    · refine lv_if_ne (tgt := 125) hx hb dX12_kindOn_118 (by decide) (fun c9 => absurd (by decide) c9) (fun _ => ?_)
      refine lv_iconst (v := (-1)) hx hb dX12_kindOn_121 (by decide) ?_
      refine lv_goto (tgt := 140) hx hb dX12_kindOn_122 (by decide) ?_
      exact RP (v := (-1)) hC (Or.inl (rfl)) rfl dX12_kindOn_140
  by_cases c_13_5809 : x5781 = 3
  · refine lv_tableIn (tgt := 141) hx hb dX12_kindOn_13 (by rw [c_13_5809]; decide) (by rw [c_13_5809]; decide) (by rw [c_13_5809]; rfl) (by decide) ?_
    refine lv_aload_n hx hb dX12_kindOn_141 rfl (lv_at hl 1 rfl) ?_
    refine lv_iload_n hx hb dX12_kindOn_142 rfl (lv_at hl 0 rfl) ?_
    refine lv_bipush (v := 9) hx hb dX12_kindOn_143 (by decide) ?_
    refine pV hC hK hl hP hD (m_is l G k9 h0 x5780 9 nw nk mhasKept nt mtaped nr mrowMany mroundOf mroundFrom mouts nm mfromHour mtoHour ns mfrom mto msort misFault mdeep mcoded mlines nl nc nF np ntr nb mbestCost nso nsi nit nsh nsf nss nrc mtraced mdealer mnumber mwhose msize misParted fnw (by omega) (ek9) (by omega)) si_X12_120 [0, 1] rfl rfl (by decide) rfl rfl rfl rfl rfl (Nat.le_of_ble_eq_true rfl) ⟨Nat.le_of_ble_eq_true rfl, Nat.le_of_ble_eq_true rfl⟩ ⟨by first | exact Nat.le_of_ble_eq_true rfl | exact Nat.zero_le _, by first | exact Nat.le_of_ble_eq_true rfl | exact Nat.zero_le _⟩ dX12_kindOn_145 (fun r5810 hr5810 => ?_)
    rcases hr5810 with ⟨rfl, a5811⟩ | ⟨rfl, a5811⟩
    · refine lv_if_eq (tgt := 156) hx hb dX12_kindOn_148 (by decide) (fun c9 => absurd c9 (by decide)) (fun _ => ?_)
      refine lv_bipush (v := 6) hx hb dX12_kindOn_151 (by decide) ?_
      refine lv_goto (tgt := 157) hx hb dX12_kindOn_153 (by decide) ?_
      exact RP (v := 6) hC (Or.inr (Or.inr (Or.inr (Or.inr (Or.inr (Or.inr (⟨rfl, KO1.mk (kk := k9) (by omega) (by omega) ex5781 ex5780 c_13_5809 a5811⟩))))))) rfl dX12_kindOn_157
    · refine lv_if_eq (tgt := 156) hx hb dX12_kindOn_148 (by decide) (fun _ => ?_) (fun c9 => absurd (by decide) c9)
      refine lv_iconst (v := (-1)) hx hb dX12_kindOn_156 (by decide) ?_
      exact RP (v := (-1)) hC (Or.inl (rfl)) rfl dX12_kindOn_157
  refine lv_tableOut (tgt := 158) hx hb dX12_kindOn_13 (by have q9 := sw_1_3 (x := x5781); simp only [c_13_5782, c_13_5802, c_13_5809, not_false_eq_true, true_implies] at q9; exact q9) (by decide) ?_
  refine lv_iconst (v := (-1)) hx hb dX12_kindOn_158 (by decide) ?_
  exact RP (v := (-1)) hC (Or.inl (rfl)) rfl dX12_kindOn_159
set_option maxHeartbeats 4000000 in
set_option maxRecDepth 100000 in
theorem m_above0 (l : Launch) (G : GG) : MP l G yX12_above cX12_above 1 (some .int) 1 [.int 0] [] (fun r : Int32 => r = (-1)) := by
  refine MP.start (by decide +kernel) (Nat.le_of_ble_eq_true rfl) ?_
  intro p e s m below meth c ls hC hK hP hD hl
  have hl : lv_has ls 1 [(0, .int 0)] := hl
  obtain ⟨hx, hb, hr, hml, hB, hown, hlocks, hnm⟩ := id hC
  refine lv_iload_n hx hb dX12_above_0 rfl (lv_at hl 0 rfl) ?_
  refine lv_iconst (v := 3) hx hb dX12_above_1 (by decide) ?_
  refine lv_icmp_ne (tgt := 9) hx hb dX12_above_2 (by decide) (fun _ => ?_) (fun c9 => absurd c9 (by decide))
  refine lv_iload_n hx hb dX12_above_9 rfl (lv_at hl 0 rfl) ?_
  refine lv_iconst (v := 5) hx hb dX12_above_10 (by decide) ?_
  refine lv_icmp_ne (tgt := 18) hx hb dX12_above_11 (by decide) (fun _ => ?_) (fun c9 => absurd c9 (by decide))
  refine lv_iload_n hx hb dX12_above_18 rfl (lv_at hl 0 rfl) ?_
  refine lv_if_ne (tgt := 26) hx hb dX12_above_19 (by decide) (fun c9 => absurd (by decide) c9) (fun _ => ?_)
  refine lv_iconst (v := (-1)) hx hb dX12_above_22 (by decide) ?_
  refine lv_goto (tgt := 27) hx hb dX12_above_23 (by decide) ?_
  exact RP (v := (-1)) hC (rfl) rfl dX12_above_27
set_option maxHeartbeats 4000000 in
set_option maxRecDepth 100000 in
theorem m_above1 (l : Launch) (G : GG) : MP l G yX12_above cX12_above 1 (some .int) 1 [.int 1] [] (fun r : Int32 => r = 0) := by
  refine MP.start (by decide +kernel) (Nat.le_of_ble_eq_true rfl) ?_
  intro p e s m below meth c ls hC hK hP hD hl
  have hl : lv_has ls 1 [(0, .int 1)] := hl
  obtain ⟨hx, hb, hr, hml, hB, hown, hlocks, hnm⟩ := id hC
  refine lv_iload_n hx hb dX12_above_0 rfl (lv_at hl 0 rfl) ?_
  refine lv_iconst (v := 3) hx hb dX12_above_1 (by decide) ?_
  refine lv_icmp_ne (tgt := 9) hx hb dX12_above_2 (by decide) (fun _ => ?_) (fun c9 => absurd c9 (by decide))
  refine lv_iload_n hx hb dX12_above_9 rfl (lv_at hl 0 rfl) ?_
  refine lv_iconst (v := 5) hx hb dX12_above_10 (by decide) ?_
  refine lv_icmp_ne (tgt := 18) hx hb dX12_above_11 (by decide) (fun _ => ?_) (fun c9 => absurd c9 (by decide))
  refine lv_iload_n hx hb dX12_above_18 rfl (lv_at hl 0 rfl) ?_
  refine lv_if_ne (tgt := 26) hx hb dX12_above_19 (by decide) (fun _ => ?_) (fun c9 => absurd c9 (by decide))
  refine lv_iconst (v := 0) hx hb dX12_above_26 (by decide) ?_
  exact RP (v := 0) hC (rfl) rfl dX12_above_27
set_option maxHeartbeats 4000000 in
set_option maxRecDepth 100000 in
theorem m_above2 (l : Launch) (G : GG) : MP l G yX12_above cX12_above 1 (some .int) 1 [.int 2] [] (fun r : Int32 => r = 0) := by
  refine MP.start (by decide +kernel) (Nat.le_of_ble_eq_true rfl) ?_
  intro p e s m below meth c ls hC hK hP hD hl
  have hl : lv_has ls 1 [(0, .int 2)] := hl
  obtain ⟨hx, hb, hr, hml, hB, hown, hlocks, hnm⟩ := id hC
  refine lv_iload_n hx hb dX12_above_0 rfl (lv_at hl 0 rfl) ?_
  refine lv_iconst (v := 3) hx hb dX12_above_1 (by decide) ?_
  refine lv_icmp_ne (tgt := 9) hx hb dX12_above_2 (by decide) (fun _ => ?_) (fun c9 => absurd c9 (by decide))
  refine lv_iload_n hx hb dX12_above_9 rfl (lv_at hl 0 rfl) ?_
  refine lv_iconst (v := 5) hx hb dX12_above_10 (by decide) ?_
  refine lv_icmp_ne (tgt := 18) hx hb dX12_above_11 (by decide) (fun _ => ?_) (fun c9 => absurd c9 (by decide))
  refine lv_iload_n hx hb dX12_above_18 rfl (lv_at hl 0 rfl) ?_
  refine lv_if_ne (tgt := 26) hx hb dX12_above_19 (by decide) (fun _ => ?_) (fun c9 => absurd c9 (by decide))
  refine lv_iconst (v := 0) hx hb dX12_above_26 (by decide) ?_
  exact RP (v := 0) hC (rfl) rfl dX12_above_27
set_option maxHeartbeats 4000000 in
set_option maxRecDepth 100000 in
theorem m_above3 (l : Launch) (G : GG) : MP l G yX12_above cX12_above 1 (some .int) 1 [.int 3] [] (fun r : Int32 => r = 1) := by
  refine MP.start (by decide +kernel) (Nat.le_of_ble_eq_true rfl) ?_
  intro p e s m below meth c ls hC hK hP hD hl
  have hl : lv_has ls 1 [(0, .int 3)] := hl
  obtain ⟨hx, hb, hr, hml, hB, hown, hlocks, hnm⟩ := id hC
  refine lv_iload_n hx hb dX12_above_0 rfl (lv_at hl 0 rfl) ?_
  refine lv_iconst (v := 3) hx hb dX12_above_1 (by decide) ?_
  refine lv_icmp_ne (tgt := 9) hx hb dX12_above_2 (by decide) (fun c9 => absurd (by decide) c9) (fun _ => ?_)
  refine lv_iconst (v := 1) hx hb dX12_above_5 (by decide) ?_
  refine lv_goto (tgt := 27) hx hb dX12_above_6 (by decide) ?_
  exact RP (v := 1) hC (rfl) rfl dX12_above_27
set_option maxHeartbeats 4000000 in
set_option maxRecDepth 100000 in
theorem m_above4 (l : Launch) (G : GG) : MP l G yX12_above cX12_above 1 (some .int) 1 [.int 4] [] (fun r : Int32 => r = 0) := by
  refine MP.start (by decide +kernel) (Nat.le_of_ble_eq_true rfl) ?_
  intro p e s m below meth c ls hC hK hP hD hl
  have hl : lv_has ls 1 [(0, .int 4)] := hl
  obtain ⟨hx, hb, hr, hml, hB, hown, hlocks, hnm⟩ := id hC
  refine lv_iload_n hx hb dX12_above_0 rfl (lv_at hl 0 rfl) ?_
  refine lv_iconst (v := 3) hx hb dX12_above_1 (by decide) ?_
  refine lv_icmp_ne (tgt := 9) hx hb dX12_above_2 (by decide) (fun _ => ?_) (fun c9 => absurd c9 (by decide))
  refine lv_iload_n hx hb dX12_above_9 rfl (lv_at hl 0 rfl) ?_
  refine lv_iconst (v := 5) hx hb dX12_above_10 (by decide) ?_
  refine lv_icmp_ne (tgt := 18) hx hb dX12_above_11 (by decide) (fun _ => ?_) (fun c9 => absurd c9 (by decide))
  refine lv_iload_n hx hb dX12_above_18 rfl (lv_at hl 0 rfl) ?_
  refine lv_if_ne (tgt := 26) hx hb dX12_above_19 (by decide) (fun _ => ?_) (fun c9 => absurd c9 (by decide))
  refine lv_iconst (v := 0) hx hb dX12_above_26 (by decide) ?_
  exact RP (v := 0) hC (rfl) rfl dX12_above_27
set_option maxHeartbeats 4000000 in
set_option maxRecDepth 100000 in
theorem m_above5 (l : Launch) (G : GG) : MP l G yX12_above cX12_above 1 (some .int) 1 [.int 5] [] (fun r : Int32 => r = 4) := by
  refine MP.start (by decide +kernel) (Nat.le_of_ble_eq_true rfl) ?_
  intro p e s m below meth c ls hC hK hP hD hl
  have hl : lv_has ls 1 [(0, .int 5)] := hl
  obtain ⟨hx, hb, hr, hml, hB, hown, hlocks, hnm⟩ := id hC
  refine lv_iload_n hx hb dX12_above_0 rfl (lv_at hl 0 rfl) ?_
  refine lv_iconst (v := 3) hx hb dX12_above_1 (by decide) ?_
  refine lv_icmp_ne (tgt := 9) hx hb dX12_above_2 (by decide) (fun _ => ?_) (fun c9 => absurd c9 (by decide))
  refine lv_iload_n hx hb dX12_above_9 rfl (lv_at hl 0 rfl) ?_
  refine lv_iconst (v := 5) hx hb dX12_above_10 (by decide) ?_
  refine lv_icmp_ne (tgt := 18) hx hb dX12_above_11 (by decide) (fun c9 => absurd (by decide) c9) (fun _ => ?_)
  refine lv_iconst (v := 4) hx hb dX12_above_14 (by decide) ?_
  refine lv_goto (tgt := 27) hx hb dX12_above_15 (by decide) ?_
  exact RP (v := 4) hC (rfl) rfl dX12_above_27
set_option maxHeartbeats 4000000 in
set_option maxRecDepth 100000 in
theorem m_above6 (l : Launch) (G : GG) : MP l G yX12_above cX12_above 1 (some .int) 1 [.int 6] [] (fun r : Int32 => r = 0) := by
  refine MP.start (by decide +kernel) (Nat.le_of_ble_eq_true rfl) ?_
  intro p e s m below meth c ls hC hK hP hD hl
  have hl : lv_has ls 1 [(0, .int 6)] := hl
  obtain ⟨hx, hb, hr, hml, hB, hown, hlocks, hnm⟩ := id hC
  refine lv_iload_n hx hb dX12_above_0 rfl (lv_at hl 0 rfl) ?_
  refine lv_iconst (v := 3) hx hb dX12_above_1 (by decide) ?_
  refine lv_icmp_ne (tgt := 9) hx hb dX12_above_2 (by decide) (fun _ => ?_) (fun c9 => absurd c9 (by decide))
  refine lv_iload_n hx hb dX12_above_9 rfl (lv_at hl 0 rfl) ?_
  refine lv_iconst (v := 5) hx hb dX12_above_10 (by decide) ?_
  refine lv_icmp_ne (tgt := 18) hx hb dX12_above_11 (by decide) (fun _ => ?_) (fun c9 => absurd c9 (by decide))
  refine lv_iload_n hx hb dX12_above_18 rfl (lv_at hl 0 rfl) ?_
  refine lv_if_ne (tgt := 26) hx hb dX12_above_19 (by decide) (fun _ => ?_) (fun c9 => absurd c9 (by decide))
  refine lv_iconst (v := 0) hx hb dX12_above_26 (by decide) ?_
  exact RP (v := 0) hC (rfl) rfl dX12_above_27
set_option maxHeartbeats 4000000 in
set_option maxRecDepth 100000 in
theorem m_hasOwn00 (l : Launch) (G : GG) : MP l G yX12_hasOwn cX12_hasOwn 2 (some .boolean) 1 [.int 0, .int 0] [] (fun r : Int32 => r = 1) := by
  refine MP.start (by decide +kernel) (Nat.le_of_ble_eq_true rfl) ?_
  intro p e s m below meth c ls hC hK hP hD hl
  have hl : lv_has ls 2 [(0, .int 0), (1, .int 0)] := hl
  obtain ⟨hx, hb, hr, hml, hB, hown, hlocks, hnm⟩ := id hC
  refine lv_iload_n hx hb dX12_hasOwn_0 rfl (lv_at hl 0 rfl) ?_
  refine lv_tableIn (tgt := 40) hx hb dX12_hasOwn_1 (by decide) (by decide) rfl (by decide) ?_
  refine lv_iconst (v := 1) hx hb dX12_hasOwn_40 (by decide) ?_
  exact RP (v := 1) hC (rfl) (by decide +kernel) dX12_hasOwn_41
set_option maxHeartbeats 4000000 in
set_option maxRecDepth 100000 in
theorem m_hasOwn01 (l : Launch) (G : GG) : MP l G yX12_hasOwn cX12_hasOwn 2 (some .boolean) 1 [.int 0, .int 1] [] (fun r : Int32 => r = 1) := by
  refine MP.start (by decide +kernel) (Nat.le_of_ble_eq_true rfl) ?_
  intro p e s m below meth c ls hC hK hP hD hl
  have hl : lv_has ls 2 [(0, .int 0), (1, .int 1)] := hl
  obtain ⟨hx, hb, hr, hml, hB, hown, hlocks, hnm⟩ := id hC
  refine lv_iload_n hx hb dX12_hasOwn_0 rfl (lv_at hl 0 rfl) ?_
  refine lv_tableIn (tgt := 40) hx hb dX12_hasOwn_1 (by decide) (by decide) rfl (by decide) ?_
  refine lv_iconst (v := 1) hx hb dX12_hasOwn_40 (by decide) ?_
  exact RP (v := 1) hC (rfl) (by decide +kernel) dX12_hasOwn_41
set_option maxHeartbeats 4000000 in
set_option maxRecDepth 100000 in
theorem m_hasOwn02 (l : Launch) (G : GG) : MP l G yX12_hasOwn cX12_hasOwn 2 (some .boolean) 1 [.int 0, .int 2] [] (fun r : Int32 => r = 1) := by
  refine MP.start (by decide +kernel) (Nat.le_of_ble_eq_true rfl) ?_
  intro p e s m below meth c ls hC hK hP hD hl
  have hl : lv_has ls 2 [(0, .int 0), (1, .int 2)] := hl
  obtain ⟨hx, hb, hr, hml, hB, hown, hlocks, hnm⟩ := id hC
  refine lv_iload_n hx hb dX12_hasOwn_0 rfl (lv_at hl 0 rfl) ?_
  refine lv_tableIn (tgt := 40) hx hb dX12_hasOwn_1 (by decide) (by decide) rfl (by decide) ?_
  refine lv_iconst (v := 1) hx hb dX12_hasOwn_40 (by decide) ?_
  exact RP (v := 1) hC (rfl) (by decide +kernel) dX12_hasOwn_41
set_option maxHeartbeats 4000000 in
set_option maxRecDepth 100000 in
theorem m_hasOwn03 (l : Launch) (G : GG) : MP l G yX12_hasOwn cX12_hasOwn 2 (some .boolean) 1 [.int 0, .int 3] [] (fun r : Int32 => r = 1) := by
  refine MP.start (by decide +kernel) (Nat.le_of_ble_eq_true rfl) ?_
  intro p e s m below meth c ls hC hK hP hD hl
  have hl : lv_has ls 2 [(0, .int 0), (1, .int 3)] := hl
  obtain ⟨hx, hb, hr, hml, hB, hown, hlocks, hnm⟩ := id hC
  refine lv_iload_n hx hb dX12_hasOwn_0 rfl (lv_at hl 0 rfl) ?_
  refine lv_tableIn (tgt := 40) hx hb dX12_hasOwn_1 (by decide) (by decide) rfl (by decide) ?_
  refine lv_iconst (v := 1) hx hb dX12_hasOwn_40 (by decide) ?_
  exact RP (v := 1) hC (rfl) (by decide +kernel) dX12_hasOwn_41
set_option maxHeartbeats 4000000 in
set_option maxRecDepth 100000 in
theorem m_hasOwn10 (l : Launch) (G : GG) : MP l G yX12_hasOwn cX12_hasOwn 2 (some .boolean) 1 [.int 1, .int 0] [] (fun r : Int32 => r = 0) := by
  refine MP.start (by decide +kernel) (Nat.le_of_ble_eq_true rfl) ?_
  intro p e s m below meth c ls hC hK hP hD hl
  have hl : lv_has ls 2 [(0, .int 1), (1, .int 0)] := hl
  obtain ⟨hx, hb, hr, hml, hB, hown, hlocks, hnm⟩ := id hC
  refine lv_iload_n hx hb dX12_hasOwn_0 rfl (lv_at hl 0 rfl) ?_
  refine lv_tableIn (tgt := 42) hx hb dX12_hasOwn_1 (by decide) (by decide) rfl (by decide) ?_
  refine lv_iload_n hx hb dX12_hasOwn_42 rfl (lv_at hl 1 rfl) ?_
  refine lv_iconst (v := 1) hx hb dX12_hasOwn_43 (by decide) ?_
  refine lv_icmp_ne (tgt := 51) hx hb dX12_hasOwn_44 (by decide) (fun _ => ?_) (fun c9 => absurd c9 (by decide))
  refine lv_iconst (v := 0) hx hb dX12_hasOwn_51 (by decide) ?_
  exact RP (v := 0) hC (rfl) (by decide +kernel) dX12_hasOwn_52
set_option maxHeartbeats 4000000 in
set_option maxRecDepth 100000 in
theorem m_hasOwn11 (l : Launch) (G : GG) : MP l G yX12_hasOwn cX12_hasOwn 2 (some .boolean) 1 [.int 1, .int 1] [] (fun r : Int32 => r = 1) := by
  refine MP.start (by decide +kernel) (Nat.le_of_ble_eq_true rfl) ?_
  intro p e s m below meth c ls hC hK hP hD hl
  have hl : lv_has ls 2 [(0, .int 1), (1, .int 1)] := hl
  obtain ⟨hx, hb, hr, hml, hB, hown, hlocks, hnm⟩ := id hC
  refine lv_iload_n hx hb dX12_hasOwn_0 rfl (lv_at hl 0 rfl) ?_
  refine lv_tableIn (tgt := 42) hx hb dX12_hasOwn_1 (by decide) (by decide) rfl (by decide) ?_
  refine lv_iload_n hx hb dX12_hasOwn_42 rfl (lv_at hl 1 rfl) ?_
  refine lv_iconst (v := 1) hx hb dX12_hasOwn_43 (by decide) ?_
  refine lv_icmp_ne (tgt := 51) hx hb dX12_hasOwn_44 (by decide) (fun c9 => absurd (by decide) c9) (fun _ => ?_)
  refine lv_iconst (v := 1) hx hb dX12_hasOwn_47 (by decide) ?_
  refine lv_goto (tgt := 52) hx hb dX12_hasOwn_48 (by decide) ?_
  exact RP (v := 1) hC (rfl) (by decide +kernel) dX12_hasOwn_52
set_option maxHeartbeats 4000000 in
set_option maxRecDepth 100000 in
theorem m_hasOwn12 (l : Launch) (G : GG) : MP l G yX12_hasOwn cX12_hasOwn 2 (some .boolean) 1 [.int 1, .int 2] [] (fun r : Int32 => r = 0) := by
  refine MP.start (by decide +kernel) (Nat.le_of_ble_eq_true rfl) ?_
  intro p e s m below meth c ls hC hK hP hD hl
  have hl : lv_has ls 2 [(0, .int 1), (1, .int 2)] := hl
  obtain ⟨hx, hb, hr, hml, hB, hown, hlocks, hnm⟩ := id hC
  refine lv_iload_n hx hb dX12_hasOwn_0 rfl (lv_at hl 0 rfl) ?_
  refine lv_tableIn (tgt := 42) hx hb dX12_hasOwn_1 (by decide) (by decide) rfl (by decide) ?_
  refine lv_iload_n hx hb dX12_hasOwn_42 rfl (lv_at hl 1 rfl) ?_
  refine lv_iconst (v := 1) hx hb dX12_hasOwn_43 (by decide) ?_
  refine lv_icmp_ne (tgt := 51) hx hb dX12_hasOwn_44 (by decide) (fun _ => ?_) (fun c9 => absurd c9 (by decide))
  refine lv_iconst (v := 0) hx hb dX12_hasOwn_51 (by decide) ?_
  exact RP (v := 0) hC (rfl) (by decide +kernel) dX12_hasOwn_52
set_option maxHeartbeats 4000000 in
set_option maxRecDepth 100000 in
theorem m_hasOwn13 (l : Launch) (G : GG) : MP l G yX12_hasOwn cX12_hasOwn 2 (some .boolean) 1 [.int 1, .int 3] [] (fun r : Int32 => r = 0) := by
  refine MP.start (by decide +kernel) (Nat.le_of_ble_eq_true rfl) ?_
  intro p e s m below meth c ls hC hK hP hD hl
  have hl : lv_has ls 2 [(0, .int 1), (1, .int 3)] := hl
  obtain ⟨hx, hb, hr, hml, hB, hown, hlocks, hnm⟩ := id hC
  refine lv_iload_n hx hb dX12_hasOwn_0 rfl (lv_at hl 0 rfl) ?_
  refine lv_tableIn (tgt := 42) hx hb dX12_hasOwn_1 (by decide) (by decide) rfl (by decide) ?_
  refine lv_iload_n hx hb dX12_hasOwn_42 rfl (lv_at hl 1 rfl) ?_
  refine lv_iconst (v := 1) hx hb dX12_hasOwn_43 (by decide) ?_
  refine lv_icmp_ne (tgt := 51) hx hb dX12_hasOwn_44 (by decide) (fun _ => ?_) (fun c9 => absurd c9 (by decide))
  refine lv_iconst (v := 0) hx hb dX12_hasOwn_51 (by decide) ?_
  exact RP (v := 0) hC (rfl) (by decide +kernel) dX12_hasOwn_52
set_option maxHeartbeats 4000000 in
set_option maxRecDepth 100000 in
theorem m_hasOwn20 (l : Launch) (G : GG) : MP l G yX12_hasOwn cX12_hasOwn 2 (some .boolean) 1 [.int 2, .int 0] [] (fun r : Int32 => r = 0) := by
  refine MP.start (by decide +kernel) (Nat.le_of_ble_eq_true rfl) ?_
  intro p e s m below meth c ls hC hK hP hD hl
  have hl : lv_has ls 2 [(0, .int 2), (1, .int 0)] := hl
  obtain ⟨hx, hb, hr, hml, hB, hown, hlocks, hnm⟩ := id hC
  refine lv_iload_n hx hb dX12_hasOwn_0 rfl (lv_at hl 0 rfl) ?_
  refine lv_tableIn (tgt := 53) hx hb dX12_hasOwn_1 (by decide) (by decide) rfl (by decide) ?_
  refine lv_iload_n hx hb dX12_hasOwn_53 rfl (lv_at hl 1 rfl) ?_
  refine lv_iconst (v := 2) hx hb dX12_hasOwn_54 (by decide) ?_
  refine lv_icmp_ne (tgt := 62) hx hb dX12_hasOwn_55 (by decide) (fun _ => ?_) (fun c9 => absurd c9 (by decide))
  refine lv_iconst (v := 0) hx hb dX12_hasOwn_62 (by decide) ?_
  exact RP (v := 0) hC (rfl) (by decide +kernel) dX12_hasOwn_63
set_option maxHeartbeats 4000000 in
set_option maxRecDepth 100000 in
theorem m_hasOwn21 (l : Launch) (G : GG) : MP l G yX12_hasOwn cX12_hasOwn 2 (some .boolean) 1 [.int 2, .int 1] [] (fun r : Int32 => r = 0) := by
  refine MP.start (by decide +kernel) (Nat.le_of_ble_eq_true rfl) ?_
  intro p e s m below meth c ls hC hK hP hD hl
  have hl : lv_has ls 2 [(0, .int 2), (1, .int 1)] := hl
  obtain ⟨hx, hb, hr, hml, hB, hown, hlocks, hnm⟩ := id hC
  refine lv_iload_n hx hb dX12_hasOwn_0 rfl (lv_at hl 0 rfl) ?_
  refine lv_tableIn (tgt := 53) hx hb dX12_hasOwn_1 (by decide) (by decide) rfl (by decide) ?_
  refine lv_iload_n hx hb dX12_hasOwn_53 rfl (lv_at hl 1 rfl) ?_
  refine lv_iconst (v := 2) hx hb dX12_hasOwn_54 (by decide) ?_
  refine lv_icmp_ne (tgt := 62) hx hb dX12_hasOwn_55 (by decide) (fun _ => ?_) (fun c9 => absurd c9 (by decide))
  refine lv_iconst (v := 0) hx hb dX12_hasOwn_62 (by decide) ?_
  exact RP (v := 0) hC (rfl) (by decide +kernel) dX12_hasOwn_63
set_option maxHeartbeats 4000000 in
set_option maxRecDepth 100000 in
theorem m_hasOwn22 (l : Launch) (G : GG) : MP l G yX12_hasOwn cX12_hasOwn 2 (some .boolean) 1 [.int 2, .int 2] [] (fun r : Int32 => r = 1) := by
  refine MP.start (by decide +kernel) (Nat.le_of_ble_eq_true rfl) ?_
  intro p e s m below meth c ls hC hK hP hD hl
  have hl : lv_has ls 2 [(0, .int 2), (1, .int 2)] := hl
  obtain ⟨hx, hb, hr, hml, hB, hown, hlocks, hnm⟩ := id hC
  refine lv_iload_n hx hb dX12_hasOwn_0 rfl (lv_at hl 0 rfl) ?_
  refine lv_tableIn (tgt := 53) hx hb dX12_hasOwn_1 (by decide) (by decide) rfl (by decide) ?_
  refine lv_iload_n hx hb dX12_hasOwn_53 rfl (lv_at hl 1 rfl) ?_
  refine lv_iconst (v := 2) hx hb dX12_hasOwn_54 (by decide) ?_
  refine lv_icmp_ne (tgt := 62) hx hb dX12_hasOwn_55 (by decide) (fun c9 => absurd (by decide) c9) (fun _ => ?_)
  refine lv_iconst (v := 1) hx hb dX12_hasOwn_58 (by decide) ?_
  refine lv_goto (tgt := 63) hx hb dX12_hasOwn_59 (by decide) ?_
  exact RP (v := 1) hC (rfl) (by decide +kernel) dX12_hasOwn_63
set_option maxHeartbeats 4000000 in
set_option maxRecDepth 100000 in
theorem m_hasOwn23 (l : Launch) (G : GG) : MP l G yX12_hasOwn cX12_hasOwn 2 (some .boolean) 1 [.int 2, .int 3] [] (fun r : Int32 => r = 0) := by
  refine MP.start (by decide +kernel) (Nat.le_of_ble_eq_true rfl) ?_
  intro p e s m below meth c ls hC hK hP hD hl
  have hl : lv_has ls 2 [(0, .int 2), (1, .int 3)] := hl
  obtain ⟨hx, hb, hr, hml, hB, hown, hlocks, hnm⟩ := id hC
  refine lv_iload_n hx hb dX12_hasOwn_0 rfl (lv_at hl 0 rfl) ?_
  refine lv_tableIn (tgt := 53) hx hb dX12_hasOwn_1 (by decide) (by decide) rfl (by decide) ?_
  refine lv_iload_n hx hb dX12_hasOwn_53 rfl (lv_at hl 1 rfl) ?_
  refine lv_iconst (v := 2) hx hb dX12_hasOwn_54 (by decide) ?_
  refine lv_icmp_ne (tgt := 62) hx hb dX12_hasOwn_55 (by decide) (fun _ => ?_) (fun c9 => absurd c9 (by decide))
  refine lv_iconst (v := 0) hx hb dX12_hasOwn_62 (by decide) ?_
  exact RP (v := 0) hC (rfl) (by decide +kernel) dX12_hasOwn_63
set_option maxHeartbeats 4000000 in
set_option maxRecDepth 100000 in
theorem m_hasOwn30 (l : Launch) (G : GG) : MP l G yX12_hasOwn cX12_hasOwn 2 (some .boolean) 1 [.int 3, .int 0] [] (fun r : Int32 => r = 0) := by
  refine MP.start (by decide +kernel) (Nat.le_of_ble_eq_true rfl) ?_
  intro p e s m below meth c ls hC hK hP hD hl
  have hl : lv_has ls 2 [(0, .int 3), (1, .int 0)] := hl
  obtain ⟨hx, hb, hr, hml, hB, hown, hlocks, hnm⟩ := id hC
  refine lv_iload_n hx hb dX12_hasOwn_0 rfl (lv_at hl 0 rfl) ?_
  refine lv_tableIn (tgt := 64) hx hb dX12_hasOwn_1 (by decide) (by decide) rfl (by decide) ?_
  refine lv_iload_n hx hb dX12_hasOwn_64 rfl (lv_at hl 1 rfl) ?_
  refine lv_iconst (v := 1) hx hb dX12_hasOwn_65 (by decide) ?_
  refine lv_icmp_eq (tgt := 74) hx hb dX12_hasOwn_66 (by decide) (fun c9 => absurd c9 (by decide)) (fun _ => ?_)
  refine lv_iload_n hx hb dX12_hasOwn_69 rfl (lv_at hl 1 rfl) ?_
  refine lv_iconst (v := 3) hx hb dX12_hasOwn_70 (by decide) ?_
  refine lv_icmp_ne (tgt := 78) hx hb dX12_hasOwn_71 (by decide) (fun _ => ?_) (fun c9 => absurd c9 (by decide))
  refine lv_iconst (v := 0) hx hb dX12_hasOwn_78 (by decide) ?_
  exact RP (v := 0) hC (rfl) (by decide +kernel) dX12_hasOwn_79
set_option maxHeartbeats 4000000 in
set_option maxRecDepth 100000 in
theorem m_hasOwn31 (l : Launch) (G : GG) : MP l G yX12_hasOwn cX12_hasOwn 2 (some .boolean) 1 [.int 3, .int 1] [] (fun r : Int32 => r = 1) := by
  refine MP.start (by decide +kernel) (Nat.le_of_ble_eq_true rfl) ?_
  intro p e s m below meth c ls hC hK hP hD hl
  have hl : lv_has ls 2 [(0, .int 3), (1, .int 1)] := hl
  obtain ⟨hx, hb, hr, hml, hB, hown, hlocks, hnm⟩ := id hC
  refine lv_iload_n hx hb dX12_hasOwn_0 rfl (lv_at hl 0 rfl) ?_
  refine lv_tableIn (tgt := 64) hx hb dX12_hasOwn_1 (by decide) (by decide) rfl (by decide) ?_
  refine lv_iload_n hx hb dX12_hasOwn_64 rfl (lv_at hl 1 rfl) ?_
  refine lv_iconst (v := 1) hx hb dX12_hasOwn_65 (by decide) ?_
  refine lv_icmp_eq (tgt := 74) hx hb dX12_hasOwn_66 (by decide) (fun _ => ?_) (fun c9 => absurd (by decide) c9)
  refine lv_iconst (v := 1) hx hb dX12_hasOwn_74 (by decide) ?_
  refine lv_goto (tgt := 79) hx hb dX12_hasOwn_75 (by decide) ?_
  exact RP (v := 1) hC (rfl) (by decide +kernel) dX12_hasOwn_79
set_option maxHeartbeats 4000000 in
set_option maxRecDepth 100000 in
theorem m_hasOwn32 (l : Launch) (G : GG) : MP l G yX12_hasOwn cX12_hasOwn 2 (some .boolean) 1 [.int 3, .int 2] [] (fun r : Int32 => r = 0) := by
  refine MP.start (by decide +kernel) (Nat.le_of_ble_eq_true rfl) ?_
  intro p e s m below meth c ls hC hK hP hD hl
  have hl : lv_has ls 2 [(0, .int 3), (1, .int 2)] := hl
  obtain ⟨hx, hb, hr, hml, hB, hown, hlocks, hnm⟩ := id hC
  refine lv_iload_n hx hb dX12_hasOwn_0 rfl (lv_at hl 0 rfl) ?_
  refine lv_tableIn (tgt := 64) hx hb dX12_hasOwn_1 (by decide) (by decide) rfl (by decide) ?_
  refine lv_iload_n hx hb dX12_hasOwn_64 rfl (lv_at hl 1 rfl) ?_
  refine lv_iconst (v := 1) hx hb dX12_hasOwn_65 (by decide) ?_
  refine lv_icmp_eq (tgt := 74) hx hb dX12_hasOwn_66 (by decide) (fun c9 => absurd c9 (by decide)) (fun _ => ?_)
  refine lv_iload_n hx hb dX12_hasOwn_69 rfl (lv_at hl 1 rfl) ?_
  refine lv_iconst (v := 3) hx hb dX12_hasOwn_70 (by decide) ?_
  refine lv_icmp_ne (tgt := 78) hx hb dX12_hasOwn_71 (by decide) (fun _ => ?_) (fun c9 => absurd c9 (by decide))
  refine lv_iconst (v := 0) hx hb dX12_hasOwn_78 (by decide) ?_
  exact RP (v := 0) hC (rfl) (by decide +kernel) dX12_hasOwn_79
set_option maxHeartbeats 4000000 in
set_option maxRecDepth 100000 in
theorem m_hasOwn33 (l : Launch) (G : GG) : MP l G yX12_hasOwn cX12_hasOwn 2 (some .boolean) 1 [.int 3, .int 3] [] (fun r : Int32 => r = 1) := by
  refine MP.start (by decide +kernel) (Nat.le_of_ble_eq_true rfl) ?_
  intro p e s m below meth c ls hC hK hP hD hl
  have hl : lv_has ls 2 [(0, .int 3), (1, .int 3)] := hl
  obtain ⟨hx, hb, hr, hml, hB, hown, hlocks, hnm⟩ := id hC
  refine lv_iload_n hx hb dX12_hasOwn_0 rfl (lv_at hl 0 rfl) ?_
  refine lv_tableIn (tgt := 64) hx hb dX12_hasOwn_1 (by decide) (by decide) rfl (by decide) ?_
  refine lv_iload_n hx hb dX12_hasOwn_64 rfl (lv_at hl 1 rfl) ?_
  refine lv_iconst (v := 1) hx hb dX12_hasOwn_65 (by decide) ?_
  refine lv_icmp_eq (tgt := 74) hx hb dX12_hasOwn_66 (by decide) (fun c9 => absurd c9 (by decide)) (fun _ => ?_)
  refine lv_iload_n hx hb dX12_hasOwn_69 rfl (lv_at hl 1 rfl) ?_
  refine lv_iconst (v := 3) hx hb dX12_hasOwn_70 (by decide) ?_
  refine lv_icmp_ne (tgt := 78) hx hb dX12_hasOwn_71 (by decide) (fun c9 => absurd (by decide) c9) (fun _ => ?_)
  refine lv_iconst (v := 1) hx hb dX12_hasOwn_74 (by decide) ?_
  refine lv_goto (tgt := 79) hx hb dX12_hasOwn_75 (by decide) ?_
  exact RP (v := 1) hC (rfl) (by decide +kernel) dX12_hasOwn_79
set_option maxHeartbeats 4000000 in
set_option maxRecDepth 100000 in
theorem m_hasOwn40 (l : Launch) (G : GG) : MP l G yX12_hasOwn cX12_hasOwn 2 (some .boolean) 1 [.int 4, .int 0] [] (fun r : Int32 => r = 1) := by
  refine MP.start (by decide +kernel) (Nat.le_of_ble_eq_true rfl) ?_
  intro p e s m below meth c ls hC hK hP hD hl
  have hl : lv_has ls 2 [(0, .int 4), (1, .int 0)] := hl
  obtain ⟨hx, hb, hr, hml, hB, hown, hlocks, hnm⟩ := id hC
  refine lv_iload_n hx hb dX12_hasOwn_0 rfl (lv_at hl 0 rfl) ?_
  refine lv_tableIn (tgt := 80) hx hb dX12_hasOwn_1 (by decide) (by decide) rfl (by decide) ?_
  refine lv_iload_n hx hb dX12_hasOwn_80 rfl (lv_at hl 1 rfl) ?_
  refine lv_if_eq (tgt := 89) hx hb dX12_hasOwn_81 (by decide) (fun _ => ?_) (fun c9 => absurd (by decide) c9)
  refine lv_iconst (v := 1) hx hb dX12_hasOwn_89 (by decide) ?_
  refine lv_goto (tgt := 94) hx hb dX12_hasOwn_90 (by decide) ?_
  exact RP (v := 1) hC (rfl) (by decide +kernel) dX12_hasOwn_94
set_option maxHeartbeats 4000000 in
set_option maxRecDepth 100000 in
theorem m_hasOwn41 (l : Launch) (G : GG) : MP l G yX12_hasOwn cX12_hasOwn 2 (some .boolean) 1 [.int 4, .int 1] [] (fun r : Int32 => r = 0) := by
  refine MP.start (by decide +kernel) (Nat.le_of_ble_eq_true rfl) ?_
  intro p e s m below meth c ls hC hK hP hD hl
  have hl : lv_has ls 2 [(0, .int 4), (1, .int 1)] := hl
  obtain ⟨hx, hb, hr, hml, hB, hown, hlocks, hnm⟩ := id hC
  refine lv_iload_n hx hb dX12_hasOwn_0 rfl (lv_at hl 0 rfl) ?_
  refine lv_tableIn (tgt := 80) hx hb dX12_hasOwn_1 (by decide) (by decide) rfl (by decide) ?_
  refine lv_iload_n hx hb dX12_hasOwn_80 rfl (lv_at hl 1 rfl) ?_
  refine lv_if_eq (tgt := 89) hx hb dX12_hasOwn_81 (by decide) (fun c9 => absurd c9 (by decide)) (fun _ => ?_)
  refine lv_iload_n hx hb dX12_hasOwn_84 rfl (lv_at hl 1 rfl) ?_
  refine lv_iconst (v := 2) hx hb dX12_hasOwn_85 (by decide) ?_
  refine lv_icmp_ne (tgt := 93) hx hb dX12_hasOwn_86 (by decide) (fun _ => ?_) (fun c9 => absurd c9 (by decide))
  refine lv_iconst (v := 0) hx hb dX12_hasOwn_93 (by decide) ?_
  exact RP (v := 0) hC (rfl) (by decide +kernel) dX12_hasOwn_94
set_option maxHeartbeats 4000000 in
set_option maxRecDepth 100000 in
theorem m_hasOwn42 (l : Launch) (G : GG) : MP l G yX12_hasOwn cX12_hasOwn 2 (some .boolean) 1 [.int 4, .int 2] [] (fun r : Int32 => r = 1) := by
  refine MP.start (by decide +kernel) (Nat.le_of_ble_eq_true rfl) ?_
  intro p e s m below meth c ls hC hK hP hD hl
  have hl : lv_has ls 2 [(0, .int 4), (1, .int 2)] := hl
  obtain ⟨hx, hb, hr, hml, hB, hown, hlocks, hnm⟩ := id hC
  refine lv_iload_n hx hb dX12_hasOwn_0 rfl (lv_at hl 0 rfl) ?_
  refine lv_tableIn (tgt := 80) hx hb dX12_hasOwn_1 (by decide) (by decide) rfl (by decide) ?_
  refine lv_iload_n hx hb dX12_hasOwn_80 rfl (lv_at hl 1 rfl) ?_
  refine lv_if_eq (tgt := 89) hx hb dX12_hasOwn_81 (by decide) (fun c9 => absurd c9 (by decide)) (fun _ => ?_)
  refine lv_iload_n hx hb dX12_hasOwn_84 rfl (lv_at hl 1 rfl) ?_
  refine lv_iconst (v := 2) hx hb dX12_hasOwn_85 (by decide) ?_
  refine lv_icmp_ne (tgt := 93) hx hb dX12_hasOwn_86 (by decide) (fun c9 => absurd (by decide) c9) (fun _ => ?_)
  refine lv_iconst (v := 1) hx hb dX12_hasOwn_89 (by decide) ?_
  refine lv_goto (tgt := 94) hx hb dX12_hasOwn_90 (by decide) ?_
  exact RP (v := 1) hC (rfl) (by decide +kernel) dX12_hasOwn_94
set_option maxHeartbeats 4000000 in
set_option maxRecDepth 100000 in
theorem m_hasOwn43 (l : Launch) (G : GG) : MP l G yX12_hasOwn cX12_hasOwn 2 (some .boolean) 1 [.int 4, .int 3] [] (fun r : Int32 => r = 0) := by
  refine MP.start (by decide +kernel) (Nat.le_of_ble_eq_true rfl) ?_
  intro p e s m below meth c ls hC hK hP hD hl
  have hl : lv_has ls 2 [(0, .int 4), (1, .int 3)] := hl
  obtain ⟨hx, hb, hr, hml, hB, hown, hlocks, hnm⟩ := id hC
  refine lv_iload_n hx hb dX12_hasOwn_0 rfl (lv_at hl 0 rfl) ?_
  refine lv_tableIn (tgt := 80) hx hb dX12_hasOwn_1 (by decide) (by decide) rfl (by decide) ?_
  refine lv_iload_n hx hb dX12_hasOwn_80 rfl (lv_at hl 1 rfl) ?_
  refine lv_if_eq (tgt := 89) hx hb dX12_hasOwn_81 (by decide) (fun c9 => absurd c9 (by decide)) (fun _ => ?_)
  refine lv_iload_n hx hb dX12_hasOwn_84 rfl (lv_at hl 1 rfl) ?_
  refine lv_iconst (v := 2) hx hb dX12_hasOwn_85 (by decide) ?_
  refine lv_icmp_ne (tgt := 93) hx hb dX12_hasOwn_86 (by decide) (fun _ => ?_) (fun c9 => absurd c9 (by decide))
  refine lv_iconst (v := 0) hx hb dX12_hasOwn_93 (by decide) ?_
  exact RP (v := 0) hC (rfl) (by decide +kernel) dX12_hasOwn_94
set_option maxHeartbeats 4000000 in
set_option maxRecDepth 100000 in
theorem m_hasOwn50 (l : Launch) (G : GG) : MP l G yX12_hasOwn cX12_hasOwn 2 (some .boolean) 1 [.int 5, .int 0] [] (fun r : Int32 => r = 1) := by
  refine MP.start (by decide +kernel) (Nat.le_of_ble_eq_true rfl) ?_
  intro p e s m below meth c ls hC hK hP hD hl
  have hl : lv_has ls 2 [(0, .int 5), (1, .int 0)] := hl
  obtain ⟨hx, hb, hr, hml, hB, hown, hlocks, hnm⟩ := id hC
  refine lv_iload_n hx hb dX12_hasOwn_0 rfl (lv_at hl 0 rfl) ?_
  refine lv_tableIn (tgt := 80) hx hb dX12_hasOwn_1 (by decide) (by decide) rfl (by decide) ?_
  refine lv_iload_n hx hb dX12_hasOwn_80 rfl (lv_at hl 1 rfl) ?_
  refine lv_if_eq (tgt := 89) hx hb dX12_hasOwn_81 (by decide) (fun _ => ?_) (fun c9 => absurd (by decide) c9)
  refine lv_iconst (v := 1) hx hb dX12_hasOwn_89 (by decide) ?_
  refine lv_goto (tgt := 94) hx hb dX12_hasOwn_90 (by decide) ?_
  exact RP (v := 1) hC (rfl) (by decide +kernel) dX12_hasOwn_94
set_option maxHeartbeats 4000000 in
set_option maxRecDepth 100000 in
theorem m_hasOwn51 (l : Launch) (G : GG) : MP l G yX12_hasOwn cX12_hasOwn 2 (some .boolean) 1 [.int 5, .int 1] [] (fun r : Int32 => r = 0) := by
  refine MP.start (by decide +kernel) (Nat.le_of_ble_eq_true rfl) ?_
  intro p e s m below meth c ls hC hK hP hD hl
  have hl : lv_has ls 2 [(0, .int 5), (1, .int 1)] := hl
  obtain ⟨hx, hb, hr, hml, hB, hown, hlocks, hnm⟩ := id hC
  refine lv_iload_n hx hb dX12_hasOwn_0 rfl (lv_at hl 0 rfl) ?_
  refine lv_tableIn (tgt := 80) hx hb dX12_hasOwn_1 (by decide) (by decide) rfl (by decide) ?_
  refine lv_iload_n hx hb dX12_hasOwn_80 rfl (lv_at hl 1 rfl) ?_
  refine lv_if_eq (tgt := 89) hx hb dX12_hasOwn_81 (by decide) (fun c9 => absurd c9 (by decide)) (fun _ => ?_)
  refine lv_iload_n hx hb dX12_hasOwn_84 rfl (lv_at hl 1 rfl) ?_
  refine lv_iconst (v := 2) hx hb dX12_hasOwn_85 (by decide) ?_
  refine lv_icmp_ne (tgt := 93) hx hb dX12_hasOwn_86 (by decide) (fun _ => ?_) (fun c9 => absurd c9 (by decide))
  refine lv_iconst (v := 0) hx hb dX12_hasOwn_93 (by decide) ?_
  exact RP (v := 0) hC (rfl) (by decide +kernel) dX12_hasOwn_94
set_option maxHeartbeats 4000000 in
set_option maxRecDepth 100000 in
theorem m_hasOwn52 (l : Launch) (G : GG) : MP l G yX12_hasOwn cX12_hasOwn 2 (some .boolean) 1 [.int 5, .int 2] [] (fun r : Int32 => r = 1) := by
  refine MP.start (by decide +kernel) (Nat.le_of_ble_eq_true rfl) ?_
  intro p e s m below meth c ls hC hK hP hD hl
  have hl : lv_has ls 2 [(0, .int 5), (1, .int 2)] := hl
  obtain ⟨hx, hb, hr, hml, hB, hown, hlocks, hnm⟩ := id hC
  refine lv_iload_n hx hb dX12_hasOwn_0 rfl (lv_at hl 0 rfl) ?_
  refine lv_tableIn (tgt := 80) hx hb dX12_hasOwn_1 (by decide) (by decide) rfl (by decide) ?_
  refine lv_iload_n hx hb dX12_hasOwn_80 rfl (lv_at hl 1 rfl) ?_
  refine lv_if_eq (tgt := 89) hx hb dX12_hasOwn_81 (by decide) (fun c9 => absurd c9 (by decide)) (fun _ => ?_)
  refine lv_iload_n hx hb dX12_hasOwn_84 rfl (lv_at hl 1 rfl) ?_
  refine lv_iconst (v := 2) hx hb dX12_hasOwn_85 (by decide) ?_
  refine lv_icmp_ne (tgt := 93) hx hb dX12_hasOwn_86 (by decide) (fun c9 => absurd (by decide) c9) (fun _ => ?_)
  refine lv_iconst (v := 1) hx hb dX12_hasOwn_89 (by decide) ?_
  refine lv_goto (tgt := 94) hx hb dX12_hasOwn_90 (by decide) ?_
  exact RP (v := 1) hC (rfl) (by decide +kernel) dX12_hasOwn_94
set_option maxHeartbeats 4000000 in
set_option maxRecDepth 100000 in
theorem m_hasOwn53 (l : Launch) (G : GG) : MP l G yX12_hasOwn cX12_hasOwn 2 (some .boolean) 1 [.int 5, .int 3] [] (fun r : Int32 => r = 0) := by
  refine MP.start (by decide +kernel) (Nat.le_of_ble_eq_true rfl) ?_
  intro p e s m below meth c ls hC hK hP hD hl
  have hl : lv_has ls 2 [(0, .int 5), (1, .int 3)] := hl
  obtain ⟨hx, hb, hr, hml, hB, hown, hlocks, hnm⟩ := id hC
  refine lv_iload_n hx hb dX12_hasOwn_0 rfl (lv_at hl 0 rfl) ?_
  refine lv_tableIn (tgt := 80) hx hb dX12_hasOwn_1 (by decide) (by decide) rfl (by decide) ?_
  refine lv_iload_n hx hb dX12_hasOwn_80 rfl (lv_at hl 1 rfl) ?_
  refine lv_if_eq (tgt := 89) hx hb dX12_hasOwn_81 (by decide) (fun c9 => absurd c9 (by decide)) (fun _ => ?_)
  refine lv_iload_n hx hb dX12_hasOwn_84 rfl (lv_at hl 1 rfl) ?_
  refine lv_iconst (v := 2) hx hb dX12_hasOwn_85 (by decide) ?_
  refine lv_icmp_ne (tgt := 93) hx hb dX12_hasOwn_86 (by decide) (fun _ => ?_) (fun c9 => absurd c9 (by decide))
  refine lv_iconst (v := 0) hx hb dX12_hasOwn_93 (by decide) ?_
  exact RP (v := 0) hC (rfl) (by decide +kernel) dX12_hasOwn_94
set_option maxHeartbeats 4000000 in
set_option maxRecDepth 100000 in
theorem m_hasOwn60 (l : Launch) (G : GG) : MP l G yX12_hasOwn cX12_hasOwn 2 (some .boolean) 1 [.int 6, .int 0] [] (fun r : Int32 => r = 0) := by
  refine MP.start (by decide +kernel) (Nat.le_of_ble_eq_true rfl) ?_
  intro p e s m below meth c ls hC hK hP hD hl
  have hl : lv_has ls 2 [(0, .int 6), (1, .int 0)] := hl
  obtain ⟨hx, hb, hr, hml, hB, hown, hlocks, hnm⟩ := id hC
  refine lv_iload_n hx hb dX12_hasOwn_0 rfl (lv_at hl 0 rfl) ?_
  refine lv_tableOut (tgt := 95) hx hb dX12_hasOwn_1 (by decide) (by decide) ?_
  refine lv_iload_n hx hb dX12_hasOwn_95 rfl (lv_at hl 1 rfl) ?_
  refine lv_iconst (v := 3) hx hb dX12_hasOwn_96 (by decide) ?_
  refine lv_icmp_ne (tgt := 104) hx hb dX12_hasOwn_97 (by decide) (fun _ => ?_) (fun c9 => absurd c9 (by decide))
  refine lv_iconst (v := 0) hx hb dX12_hasOwn_104 (by decide) ?_
  exact RP (v := 0) hC (rfl) (by decide +kernel) dX12_hasOwn_105
set_option maxHeartbeats 4000000 in
set_option maxRecDepth 100000 in
theorem m_hasOwn61 (l : Launch) (G : GG) : MP l G yX12_hasOwn cX12_hasOwn 2 (some .boolean) 1 [.int 6, .int 1] [] (fun r : Int32 => r = 0) := by
  refine MP.start (by decide +kernel) (Nat.le_of_ble_eq_true rfl) ?_
  intro p e s m below meth c ls hC hK hP hD hl
  have hl : lv_has ls 2 [(0, .int 6), (1, .int 1)] := hl
  obtain ⟨hx, hb, hr, hml, hB, hown, hlocks, hnm⟩ := id hC
  refine lv_iload_n hx hb dX12_hasOwn_0 rfl (lv_at hl 0 rfl) ?_
  refine lv_tableOut (tgt := 95) hx hb dX12_hasOwn_1 (by decide) (by decide) ?_
  refine lv_iload_n hx hb dX12_hasOwn_95 rfl (lv_at hl 1 rfl) ?_
  refine lv_iconst (v := 3) hx hb dX12_hasOwn_96 (by decide) ?_
  refine lv_icmp_ne (tgt := 104) hx hb dX12_hasOwn_97 (by decide) (fun _ => ?_) (fun c9 => absurd c9 (by decide))
  refine lv_iconst (v := 0) hx hb dX12_hasOwn_104 (by decide) ?_
  exact RP (v := 0) hC (rfl) (by decide +kernel) dX12_hasOwn_105
set_option maxHeartbeats 4000000 in
set_option maxRecDepth 100000 in
theorem m_hasOwn62 (l : Launch) (G : GG) : MP l G yX12_hasOwn cX12_hasOwn 2 (some .boolean) 1 [.int 6, .int 2] [] (fun r : Int32 => r = 0) := by
  refine MP.start (by decide +kernel) (Nat.le_of_ble_eq_true rfl) ?_
  intro p e s m below meth c ls hC hK hP hD hl
  have hl : lv_has ls 2 [(0, .int 6), (1, .int 2)] := hl
  obtain ⟨hx, hb, hr, hml, hB, hown, hlocks, hnm⟩ := id hC
  refine lv_iload_n hx hb dX12_hasOwn_0 rfl (lv_at hl 0 rfl) ?_
  refine lv_tableOut (tgt := 95) hx hb dX12_hasOwn_1 (by decide) (by decide) ?_
  refine lv_iload_n hx hb dX12_hasOwn_95 rfl (lv_at hl 1 rfl) ?_
  refine lv_iconst (v := 3) hx hb dX12_hasOwn_96 (by decide) ?_
  refine lv_icmp_ne (tgt := 104) hx hb dX12_hasOwn_97 (by decide) (fun _ => ?_) (fun c9 => absurd c9 (by decide))
  refine lv_iconst (v := 0) hx hb dX12_hasOwn_104 (by decide) ?_
  exact RP (v := 0) hC (rfl) (by decide +kernel) dX12_hasOwn_105
set_option maxHeartbeats 4000000 in
set_option maxRecDepth 100000 in
theorem m_hasOwn63 (l : Launch) (G : GG) : MP l G yX12_hasOwn cX12_hasOwn 2 (some .boolean) 1 [.int 6, .int 3] [] (fun r : Int32 => r = 1) := by
  refine MP.start (by decide +kernel) (Nat.le_of_ble_eq_true rfl) ?_
  intro p e s m below meth c ls hC hK hP hD hl
  have hl : lv_has ls 2 [(0, .int 6), (1, .int 3)] := hl
  obtain ⟨hx, hb, hr, hml, hB, hown, hlocks, hnm⟩ := id hC
  refine lv_iload_n hx hb dX12_hasOwn_0 rfl (lv_at hl 0 rfl) ?_
  refine lv_tableOut (tgt := 95) hx hb dX12_hasOwn_1 (by decide) (by decide) ?_
  refine lv_iload_n hx hb dX12_hasOwn_95 rfl (lv_at hl 1 rfl) ?_
  refine lv_iconst (v := 3) hx hb dX12_hasOwn_96 (by decide) ?_
  refine lv_icmp_ne (tgt := 104) hx hb dX12_hasOwn_97 (by decide) (fun c9 => absurd (by decide) c9) (fun _ => ?_)
  refine lv_iconst (v := 1) hx hb dX12_hasOwn_100 (by decide) ?_
  refine lv_goto (tgt := 105) hx hb dX12_hasOwn_101 (by decide) ?_
  exact RP (v := 1) hC (rfl) (by decide +kernel) dX12_hasOwn_105
set_option maxHeartbeats 4000000 in
set_option maxRecDepth 100000 in
theorem r_taken (l : Launch) (G : GG) (h0 : Nat) (x1 : Int32) (x2 : Int32) (nw : Nat) (nk : Nat) (mhasKept : Int32) (nt : Nat) (mtaped : Int32) (nr : Nat) (mrowMany : Int32) (mroundOf : Int32) (mroundFrom : Int32) (mouts : Int32) (nm : Nat) (mfromHour : Int32) (mtoHour : Int32) (ns : Nat) (mfrom : Int32) (mto : Int32) (msort : Int32) (misFault : Int32) (mdeep : Int32) (mcoded : Int32) (mlines : Int32) (nl : Nat) (nc : Nat) (nF : Nat) (np : Nat) (ntr : Nat) (nb : Nat) (mbestCost : Int32) (nso : Nat) (nsi : Nat) (nit : Nat) (nsh : Nat) (nsf : Nat) (nss : Nat) (nrc : Nat) (mtraced : Int32) (mdealer : Int32) (mnumber : Int32) (mwhose : Int32) (msize : Int32) (misParted : Int32) (fnw : Nat → Int32) (fnsh : Nat → Int32) (fnsf : Nat → Int32) (fnss : Nat → Int32) (hN : NI fnw) : MP l G yX12_taken cX12_taken 4 (some .int) 4 [.ref h0, .int x1, .int x2] [(h0, .inr (12, [.ref nw, .ref nk, .int mhasKept, .ref nt, .int mtaped, .ref nr, .int mrowMany, .int mroundOf, .int mroundFrom, .int mouts, .ref nm, .int mfromHour, .int mtoHour, .ref ns, .int mfrom, .int mto, .int msort, .int misFault, .int mdeep, .int mcoded, .int mlines, .ref nl, .ref nc, .ref nF, .ref np, .ref ntr, .ref nb, .int mbestCost, .ref nso, .ref nsi, .ref nit, .ref nsh, .ref nsf, .ref nss, .ref nrc, .int mtraced, .int mdealer, .int mnumber, .int mwhose, .int msize, .int misParted])), (nw, .inl (G.2.1, 1662, .inl fnw)), (nsh, .inl (G.2.1, 4, .inl fnsh)), (nsf, .inl (G.2.1, 4, .inl fnsf)), (nss, .inl (G.2.1, 4, .inl fnss))] (fun r : Int32 => True) := by
  refine MP.start (by decide +kernel) (Nat.le_of_ble_eq_true rfl) ?_
  intro p e s m below meth c ls hC hK hP hD hl
  have hl : lv_has ls 4 [(0, .ref h0), (1, .int x1), (2, .int x2)] := hl
  obtain ⟨hx, hb, hr, hml, hB, hown, hlocks, hnm⟩ := id hC
  refine lv_iload_n hx hb dX12_taken_0 rfl (lv_at hl 1 rfl) ?_
  refine pS hC hK hl (m_isFour l G x1) si_X12_336 rfl rfl (Nat.le_of_ble_eq_true rfl) ⟨Nat.le_of_ble_eq_true rfl, Nat.le_of_ble_eq_true rfl⟩ ⟨by first | exact Nat.le_of_ble_eq_true rfl | exact Nat.zero_le _, by first | exact Nat.le_of_ble_eq_true rfl | exact Nat.zero_le _⟩ dX12_taken_1 (fun r5812 hr5812 => ?_)
  rcases hr5812 with ⟨rfl, a5813⟩ | ⟨rfl, a5813⟩
  · refine lv_if_eq (tgt := 28) hx hb dX12_taken_4 (by decide) (fun c9 => absurd c9 (by decide)) (fun _ => ?_)
    refine lv_iload_n hx hb dX12_taken_7 rfl (lv_at hl 2 rfl) ?_
    refine lv_iconst (v := 0) hx hb dX12_taken_8 (by decide) ?_
    refine lv_bipush (v := 6) hx hb dX12_taken_9 (by decide) ?_
    refine pS hC hK hl (m_within l G x2 0 6) si_X12_84 rfl rfl (Nat.le_of_ble_eq_true rfl) ⟨Nat.le_of_ble_eq_true rfl, Nat.le_of_ble_eq_true rfl⟩ ⟨by first | exact Nat.le_of_ble_eq_true rfl | exact Nat.zero_le _, by first | exact Nat.le_of_ble_eq_true rfl | exact Nat.zero_le _⟩ dX12_taken_11 (fun r5814 hr5814 => ?_)
    rcases hr5814 with ⟨rfl, a5815⟩ | ⟨rfl, a5815⟩
    · refine lv_if_ne (tgt := 30) hx hb dX12_taken_14 (by decide) (fun _ => ?_) (fun c9 => absurd c9 (by decide))
      obtain ⟨jt, hjt, rfl⟩ := Wi_nat (N := 3) (by decide) a5813
      refine lv_aload_n hx hb dX12_taken_30 rfl (lv_at hl 0 rfl) ?_
      refine gf_X12_72 hC rfl hK hP 0 rfl rfl dX12_taken_31 ?_
      refine lv_iload_n hx hb dX12_taken_34 rfl (lv_at hl 1 rfl) ?_
      refine ald hC hK hP 2 rfl (vp_in_nI (by omega) (by omega)) (k := jt) (nI_clamp (by omega)) (v := fnsh jt) rfl dX12_taken_35 ?_
      refine lv_topi (fun x5816 ex5816 => ?_)
      refine lv_iconst (v := 4) hx hb dX12_taken_36 (by decide) ?_
      refine lv_icmp_ne (tgt := 65) hx hb dX12_taken_37 (by decide) (fun c_37_5817 => ?_) (fun c_37_5817 => ?_)
      · refine lv_aload_n hx hb dX12_taken_65 rfl (lv_at hl 0 rfl) ?_
        refine lv_iload_n hx hb dX12_taken_66 rfl (lv_at hl 1 rfl) ?_
        refine pV hC hK hl hP hD (m_kindOn l G h0 jt nw nk mhasKept nt mtaped nr mrowMany mroundOf mroundFrom mouts nm mfromHour mtoHour ns mfrom mto msort misFault mdeep mcoded mlines nl nc nF np ntr nb mbestCost nso nsi nit nsh nsf nss nrc mtraced mdealer mnumber mwhose msize misParted fnw fnsh fnsf (by omega) (hN)) si_X12_345 [0, 1, 2, 3] rfl rfl (by decide) rfl rfl rfl rfl rfl (Nat.le_of_ble_eq_true rfl) ⟨Nat.le_of_ble_eq_true rfl, Nat.le_of_ble_eq_true rfl⟩ ⟨by first | exact Nat.le_of_ble_eq_true rfl | exact Nat.zero_le _, by first | exact Nat.le_of_ble_eq_true rfl | exact Nat.zero_le _⟩ dX12_taken_67 (fun r5818 hr5818 => ?_)
        rcases hr5818 with rfl | ⟨rfl, a5819⟩ | ⟨rfl, a5819⟩ | ⟨rfl, a5819⟩ | ⟨rfl, a5819⟩ | ⟨rfl, a5819⟩ | ⟨rfl, a5819⟩
        · refine lv_istore_n (lv' := [(3, .int (-1)), (0, .ref h0), (1, .int (nI jt)), (2, .int x2)]) hx hb dX12_taken_70 rfl hl (by decide) rfl (fun ls hl => ?_)
          refine lv_iload_n hx hb dX12_taken_71 rfl (lv_at hl 0 rfl) ?_
          refine lv_if_ge (tgt := 78) hx hb dX12_taken_72 (by decide) (fun c9 => absurd c9 (by decide)) (fun _ => ?_)
          refine lv_bipush (v := (-11)) hx hb dX12_taken_75 (by decide) ?_
          exact RP (v := (-11)) hC (trivial) rfl dX12_taken_77
        · refine lv_istore_n (lv' := [(3, .int 1), (0, .ref h0), (1, .int (nI jt)), (2, .int x2)]) hx hb dX12_taken_70 rfl hl (by decide) rfl (fun ls hl => ?_)
          refine lv_iload_n hx hb dX12_taken_71 rfl (lv_at hl 0 rfl) ?_
          refine lv_if_ge (tgt := 78) hx hb dX12_taken_72 (by decide) (fun _ => ?_) (fun c9 => absurd (by decide) c9)
          refine lv_iload_n hx hb dX12_taken_78 rfl (lv_at hl 0 rfl) ?_
          refine lv_if_lt (tgt := 95) hx hb dX12_taken_79 (by decide) (fun c9 => absurd c9 (by decide)) (fun _ => ?_)
          refine lv_iload_n hx hb dX12_taken_82 rfl (lv_at hl 0 rfl) ?_
          refine lv_iload_n hx hb dX12_taken_83 rfl (lv_at hl 3 rfl) ?_
          refine lv_icmp_eq (tgt := 95) hx hb dX12_taken_84 (by decide) (fun c_84_5820 => ?_) (fun c_84_5820 => ?_)
          · refine lv_iload_n hx hb dX12_taken_95 rfl (lv_at hl 0 rfl) ?_
            refine lv_iload_n hx hb dX12_taken_96 rfl (lv_at hl 3 rfl) ?_
            refine lv_icmp_ne (tgt := 109) hx hb dX12_taken_97 (by decide) (fun c9 => absurd (c_84_5820) c9) (fun _ => ?_)
            refine lv_aload_n hx hb dX12_taken_100 rfl (lv_at hl 1 rfl) ?_
            refine gf_X12_75 hC rfl hK hP 0 rfl rfl dX12_taken_101 ?_
            refine lv_iload_n hx hb dX12_taken_104 rfl (lv_at hl 2 rfl) ?_
            refine ald hC hK hP 3 rfl (vp_in_nI (by omega) (by omega)) (k := jt) (nI_clamp (by omega)) (v := fnsf jt) rfl dX12_taken_105 ?_
            refine lv_topi (fun x5821 ex5821 => ?_)
            refine lv_goto (tgt := 111) hx hb dX12_taken_106 (by decide) ?_
            exact RP (v := x5821) hC (trivial) rfl dX12_taken_111
          · refine lv_iload_n hx hb dX12_taken_87 rfl (lv_at hl 0 rfl) ?_
            refine pS hC hK hl (m_above1 l G) si_X12_348 rfl rfl (Nat.le_of_ble_eq_true rfl) ⟨Nat.le_of_ble_eq_true rfl, Nat.le_of_ble_eq_true rfl⟩ ⟨by first | exact Nat.le_of_ble_eq_true rfl | exact Nat.zero_le _, by first | exact Nat.le_of_ble_eq_true rfl | exact Nat.zero_le _⟩ dX12_taken_88 (fun r5822 hr5822 => ?_)
            obtain rfl := hr5822
            refine lv_istore_n (lv' := [(3, .int 0), (0, .ref h0), (1, .int (nI jt)), (2, .int x2)]) hx hb dX12_taken_91 rfl hl (by decide) rfl (fun ls hl => ?_)
            refine lv_goto (tgt := 78) hx hb dX12_taken_92 (by decide) ?_
            refine lv_iload_n hx hb dX12_taken_78 rfl (lv_at hl 0 rfl) ?_
            refine lv_if_lt (tgt := 95) hx hb dX12_taken_79 (by decide) (fun c9 => absurd c9 (by decide)) (fun _ => ?_)
            refine lv_iload_n hx hb dX12_taken_82 rfl (lv_at hl 0 rfl) ?_
            refine lv_iload_n hx hb dX12_taken_83 rfl (lv_at hl 3 rfl) ?_
            refine lv_icmp_eq (tgt := 95) hx hb dX12_taken_84 (by decide) (fun c_84_5824 => ?_) (fun c_84_5824 => ?_)
            · refine lv_iload_n hx hb dX12_taken_95 rfl (lv_at hl 0 rfl) ?_
              refine lv_iload_n hx hb dX12_taken_96 rfl (lv_at hl 3 rfl) ?_
              refine lv_icmp_ne (tgt := 109) hx hb dX12_taken_97 (by decide) (fun c9 => absurd (c_84_5824) c9) (fun _ => ?_)
              refine lv_aload_n hx hb dX12_taken_100 rfl (lv_at hl 1 rfl) ?_
              refine gf_X12_75 hC rfl hK hP 0 rfl rfl dX12_taken_101 ?_
              refine lv_iload_n hx hb dX12_taken_104 rfl (lv_at hl 2 rfl) ?_
              refine ald hC hK hP 3 rfl (vp_in_nI (by omega) (by omega)) (k := jt) (nI_clamp (by omega)) (v := fnsf jt) rfl dX12_taken_105 ?_
              refine lv_topi (fun x5825 ex5825 => ?_)
              refine lv_goto (tgt := 111) hx hb dX12_taken_106 (by decide) ?_
              exact RP (v := x5825) hC (trivial) rfl dX12_taken_111
            · refine lv_iload_n hx hb dX12_taken_87 rfl (lv_at hl 0 rfl) ?_
              refine pS hC hK hl (m_above0 l G) si_X12_348 rfl rfl (Nat.le_of_ble_eq_true rfl) ⟨Nat.le_of_ble_eq_true rfl, Nat.le_of_ble_eq_true rfl⟩ ⟨by first | exact Nat.le_of_ble_eq_true rfl | exact Nat.zero_le _, by first | exact Nat.le_of_ble_eq_true rfl | exact Nat.zero_le _⟩ dX12_taken_88 (fun r5826 hr5826 => ?_)
              obtain rfl := hr5826
              refine lv_istore_n (lv' := [(3, .int (-1)), (0, .ref h0), (1, .int (nI jt)), (2, .int x2)]) hx hb dX12_taken_91 rfl hl (by decide) rfl (fun ls hl => ?_)
              refine lv_goto (tgt := 78) hx hb dX12_taken_92 (by decide) ?_
              refine lv_iload_n hx hb dX12_taken_78 rfl (lv_at hl 0 rfl) ?_
              refine lv_if_lt (tgt := 95) hx hb dX12_taken_79 (by decide) (fun _ => ?_) (fun c9 => absurd (by decide) c9)
              refine lv_iload_n hx hb dX12_taken_95 rfl (lv_at hl 0 rfl) ?_
              refine lv_iload_n hx hb dX12_taken_96 rfl (lv_at hl 3 rfl) ?_
              refine lv_icmp_ne (tgt := 109) hx hb dX12_taken_97 (by decide) (fun c_97_5828 => ?_) (fun c_97_5828 => ?_)
              · refine lv_bipush (v := (-13)) hx hb dX12_taken_109 (by decide) ?_
                exact RP (v := (-13)) hC (trivial) rfl dX12_taken_111
              · refine lv_aload_n hx hb dX12_taken_100 rfl (lv_at hl 1 rfl) ?_
                refine gf_X12_75 hC rfl hK hP 0 rfl rfl dX12_taken_101 ?_
                refine lv_iload_n hx hb dX12_taken_104 rfl (lv_at hl 2 rfl) ?_
                refine ald hC hK hP 3 rfl (vp_in_nI (by omega) (by omega)) (k := jt) (nI_clamp (by omega)) (v := fnsf jt) rfl dX12_taken_105 ?_
                refine lv_topi (fun x5829 ex5829 => ?_)
                refine lv_goto (tgt := 111) hx hb dX12_taken_106 (by decide) ?_
                exact RP (v := x5829) hC (trivial) rfl dX12_taken_111
        · refine lv_istore_n (lv' := [(3, .int 2), (0, .ref h0), (1, .int (nI jt)), (2, .int x2)]) hx hb dX12_taken_70 rfl hl (by decide) rfl (fun ls hl => ?_)
          refine lv_iload_n hx hb dX12_taken_71 rfl (lv_at hl 0 rfl) ?_
          refine lv_if_ge (tgt := 78) hx hb dX12_taken_72 (by decide) (fun _ => ?_) (fun c9 => absurd (by decide) c9)
          refine lv_iload_n hx hb dX12_taken_78 rfl (lv_at hl 0 rfl) ?_
          refine lv_if_lt (tgt := 95) hx hb dX12_taken_79 (by decide) (fun c9 => absurd c9 (by decide)) (fun _ => ?_)
          refine lv_iload_n hx hb dX12_taken_82 rfl (lv_at hl 0 rfl) ?_
          refine lv_iload_n hx hb dX12_taken_83 rfl (lv_at hl 3 rfl) ?_
          refine lv_icmp_eq (tgt := 95) hx hb dX12_taken_84 (by decide) (fun c_84_5830 => ?_) (fun c_84_5830 => ?_)
          · refine lv_iload_n hx hb dX12_taken_95 rfl (lv_at hl 0 rfl) ?_
            refine lv_iload_n hx hb dX12_taken_96 rfl (lv_at hl 3 rfl) ?_
            refine lv_icmp_ne (tgt := 109) hx hb dX12_taken_97 (by decide) (fun c9 => absurd (c_84_5830) c9) (fun _ => ?_)
            refine lv_aload_n hx hb dX12_taken_100 rfl (lv_at hl 1 rfl) ?_
            refine gf_X12_75 hC rfl hK hP 0 rfl rfl dX12_taken_101 ?_
            refine lv_iload_n hx hb dX12_taken_104 rfl (lv_at hl 2 rfl) ?_
            refine ald hC hK hP 3 rfl (vp_in_nI (by omega) (by omega)) (k := jt) (nI_clamp (by omega)) (v := fnsf jt) rfl dX12_taken_105 ?_
            refine lv_topi (fun x5831 ex5831 => ?_)
            refine lv_goto (tgt := 111) hx hb dX12_taken_106 (by decide) ?_
            exact RP (v := x5831) hC (trivial) rfl dX12_taken_111
          · refine lv_iload_n hx hb dX12_taken_87 rfl (lv_at hl 0 rfl) ?_
            refine pS hC hK hl (m_above2 l G) si_X12_348 rfl rfl (Nat.le_of_ble_eq_true rfl) ⟨Nat.le_of_ble_eq_true rfl, Nat.le_of_ble_eq_true rfl⟩ ⟨by first | exact Nat.le_of_ble_eq_true rfl | exact Nat.zero_le _, by first | exact Nat.le_of_ble_eq_true rfl | exact Nat.zero_le _⟩ dX12_taken_88 (fun r5832 hr5832 => ?_)
            obtain rfl := hr5832
            refine lv_istore_n (lv' := [(3, .int 0), (0, .ref h0), (1, .int (nI jt)), (2, .int x2)]) hx hb dX12_taken_91 rfl hl (by decide) rfl (fun ls hl => ?_)
            refine lv_goto (tgt := 78) hx hb dX12_taken_92 (by decide) ?_
            refine lv_iload_n hx hb dX12_taken_78 rfl (lv_at hl 0 rfl) ?_
            refine lv_if_lt (tgt := 95) hx hb dX12_taken_79 (by decide) (fun c9 => absurd c9 (by decide)) (fun _ => ?_)
            refine lv_iload_n hx hb dX12_taken_82 rfl (lv_at hl 0 rfl) ?_
            refine lv_iload_n hx hb dX12_taken_83 rfl (lv_at hl 3 rfl) ?_
            refine lv_icmp_eq (tgt := 95) hx hb dX12_taken_84 (by decide) (fun c_84_5834 => ?_) (fun c_84_5834 => ?_)
            · refine lv_iload_n hx hb dX12_taken_95 rfl (lv_at hl 0 rfl) ?_
              refine lv_iload_n hx hb dX12_taken_96 rfl (lv_at hl 3 rfl) ?_
              refine lv_icmp_ne (tgt := 109) hx hb dX12_taken_97 (by decide) (fun c9 => absurd (c_84_5834) c9) (fun _ => ?_)
              refine lv_aload_n hx hb dX12_taken_100 rfl (lv_at hl 1 rfl) ?_
              refine gf_X12_75 hC rfl hK hP 0 rfl rfl dX12_taken_101 ?_
              refine lv_iload_n hx hb dX12_taken_104 rfl (lv_at hl 2 rfl) ?_
              refine ald hC hK hP 3 rfl (vp_in_nI (by omega) (by omega)) (k := jt) (nI_clamp (by omega)) (v := fnsf jt) rfl dX12_taken_105 ?_
              refine lv_topi (fun x5835 ex5835 => ?_)
              refine lv_goto (tgt := 111) hx hb dX12_taken_106 (by decide) ?_
              exact RP (v := x5835) hC (trivial) rfl dX12_taken_111
            · refine lv_iload_n hx hb dX12_taken_87 rfl (lv_at hl 0 rfl) ?_
              refine pS hC hK hl (m_above0 l G) si_X12_348 rfl rfl (Nat.le_of_ble_eq_true rfl) ⟨Nat.le_of_ble_eq_true rfl, Nat.le_of_ble_eq_true rfl⟩ ⟨by first | exact Nat.le_of_ble_eq_true rfl | exact Nat.zero_le _, by first | exact Nat.le_of_ble_eq_true rfl | exact Nat.zero_le _⟩ dX12_taken_88 (fun r5836 hr5836 => ?_)
              obtain rfl := hr5836
              refine lv_istore_n (lv' := [(3, .int (-1)), (0, .ref h0), (1, .int (nI jt)), (2, .int x2)]) hx hb dX12_taken_91 rfl hl (by decide) rfl (fun ls hl => ?_)
              refine lv_goto (tgt := 78) hx hb dX12_taken_92 (by decide) ?_
              refine lv_iload_n hx hb dX12_taken_78 rfl (lv_at hl 0 rfl) ?_
              refine lv_if_lt (tgt := 95) hx hb dX12_taken_79 (by decide) (fun _ => ?_) (fun c9 => absurd (by decide) c9)
              refine lv_iload_n hx hb dX12_taken_95 rfl (lv_at hl 0 rfl) ?_
              refine lv_iload_n hx hb dX12_taken_96 rfl (lv_at hl 3 rfl) ?_
              refine lv_icmp_ne (tgt := 109) hx hb dX12_taken_97 (by decide) (fun c_97_5838 => ?_) (fun c_97_5838 => ?_)
              · refine lv_bipush (v := (-13)) hx hb dX12_taken_109 (by decide) ?_
                exact RP (v := (-13)) hC (trivial) rfl dX12_taken_111
              · refine lv_aload_n hx hb dX12_taken_100 rfl (lv_at hl 1 rfl) ?_
                refine gf_X12_75 hC rfl hK hP 0 rfl rfl dX12_taken_101 ?_
                refine lv_iload_n hx hb dX12_taken_104 rfl (lv_at hl 2 rfl) ?_
                refine ald hC hK hP 3 rfl (vp_in_nI (by omega) (by omega)) (k := jt) (nI_clamp (by omega)) (v := fnsf jt) rfl dX12_taken_105 ?_
                refine lv_topi (fun x5839 ex5839 => ?_)
                refine lv_goto (tgt := 111) hx hb dX12_taken_106 (by decide) ?_
                exact RP (v := x5839) hC (trivial) rfl dX12_taken_111
        · refine lv_istore_n (lv' := [(3, .int 3), (0, .ref h0), (1, .int (nI jt)), (2, .int x2)]) hx hb dX12_taken_70 rfl hl (by decide) rfl (fun ls hl => ?_)
          refine lv_iload_n hx hb dX12_taken_71 rfl (lv_at hl 0 rfl) ?_
          refine lv_if_ge (tgt := 78) hx hb dX12_taken_72 (by decide) (fun _ => ?_) (fun c9 => absurd (by decide) c9)
          refine lv_iload_n hx hb dX12_taken_78 rfl (lv_at hl 0 rfl) ?_
          refine lv_if_lt (tgt := 95) hx hb dX12_taken_79 (by decide) (fun c9 => absurd c9 (by decide)) (fun _ => ?_)
          refine lv_iload_n hx hb dX12_taken_82 rfl (lv_at hl 0 rfl) ?_
          refine lv_iload_n hx hb dX12_taken_83 rfl (lv_at hl 3 rfl) ?_
          refine lv_icmp_eq (tgt := 95) hx hb dX12_taken_84 (by decide) (fun c_84_5840 => ?_) (fun c_84_5840 => ?_)
          · refine lv_iload_n hx hb dX12_taken_95 rfl (lv_at hl 0 rfl) ?_
            refine lv_iload_n hx hb dX12_taken_96 rfl (lv_at hl 3 rfl) ?_
            refine lv_icmp_ne (tgt := 109) hx hb dX12_taken_97 (by decide) (fun c9 => absurd (c_84_5840) c9) (fun _ => ?_)
            refine lv_aload_n hx hb dX12_taken_100 rfl (lv_at hl 1 rfl) ?_
            refine gf_X12_75 hC rfl hK hP 0 rfl rfl dX12_taken_101 ?_
            refine lv_iload_n hx hb dX12_taken_104 rfl (lv_at hl 2 rfl) ?_
            refine ald hC hK hP 3 rfl (vp_in_nI (by omega) (by omega)) (k := jt) (nI_clamp (by omega)) (v := fnsf jt) rfl dX12_taken_105 ?_
            refine lv_topi (fun x5841 ex5841 => ?_)
            refine lv_goto (tgt := 111) hx hb dX12_taken_106 (by decide) ?_
            exact RP (v := x5841) hC (trivial) rfl dX12_taken_111
          · refine lv_iload_n hx hb dX12_taken_87 rfl (lv_at hl 0 rfl) ?_
            refine pS hC hK hl (m_above3 l G) si_X12_348 rfl rfl (Nat.le_of_ble_eq_true rfl) ⟨Nat.le_of_ble_eq_true rfl, Nat.le_of_ble_eq_true rfl⟩ ⟨by first | exact Nat.le_of_ble_eq_true rfl | exact Nat.zero_le _, by first | exact Nat.le_of_ble_eq_true rfl | exact Nat.zero_le _⟩ dX12_taken_88 (fun r5842 hr5842 => ?_)
            obtain rfl := hr5842
            refine lv_istore_n (lv' := [(3, .int 1), (0, .ref h0), (1, .int (nI jt)), (2, .int x2)]) hx hb dX12_taken_91 rfl hl (by decide) rfl (fun ls hl => ?_)
            refine lv_goto (tgt := 78) hx hb dX12_taken_92 (by decide) ?_
            refine lv_iload_n hx hb dX12_taken_78 rfl (lv_at hl 0 rfl) ?_
            refine lv_if_lt (tgt := 95) hx hb dX12_taken_79 (by decide) (fun c9 => absurd c9 (by decide)) (fun _ => ?_)
            refine lv_iload_n hx hb dX12_taken_82 rfl (lv_at hl 0 rfl) ?_
            refine lv_iload_n hx hb dX12_taken_83 rfl (lv_at hl 3 rfl) ?_
            refine lv_icmp_eq (tgt := 95) hx hb dX12_taken_84 (by decide) (fun c_84_5844 => ?_) (fun c_84_5844 => ?_)
            · refine lv_iload_n hx hb dX12_taken_95 rfl (lv_at hl 0 rfl) ?_
              refine lv_iload_n hx hb dX12_taken_96 rfl (lv_at hl 3 rfl) ?_
              refine lv_icmp_ne (tgt := 109) hx hb dX12_taken_97 (by decide) (fun c9 => absurd (c_84_5844) c9) (fun _ => ?_)
              refine lv_aload_n hx hb dX12_taken_100 rfl (lv_at hl 1 rfl) ?_
              refine gf_X12_75 hC rfl hK hP 0 rfl rfl dX12_taken_101 ?_
              refine lv_iload_n hx hb dX12_taken_104 rfl (lv_at hl 2 rfl) ?_
              refine ald hC hK hP 3 rfl (vp_in_nI (by omega) (by omega)) (k := jt) (nI_clamp (by omega)) (v := fnsf jt) rfl dX12_taken_105 ?_
              refine lv_topi (fun x5845 ex5845 => ?_)
              refine lv_goto (tgt := 111) hx hb dX12_taken_106 (by decide) ?_
              exact RP (v := x5845) hC (trivial) rfl dX12_taken_111
            · refine lv_iload_n hx hb dX12_taken_87 rfl (lv_at hl 0 rfl) ?_
              refine pS hC hK hl (m_above1 l G) si_X12_348 rfl rfl (Nat.le_of_ble_eq_true rfl) ⟨Nat.le_of_ble_eq_true rfl, Nat.le_of_ble_eq_true rfl⟩ ⟨by first | exact Nat.le_of_ble_eq_true rfl | exact Nat.zero_le _, by first | exact Nat.le_of_ble_eq_true rfl | exact Nat.zero_le _⟩ dX12_taken_88 (fun r5846 hr5846 => ?_)
              obtain rfl := hr5846
              refine lv_istore_n (lv' := [(3, .int 0), (0, .ref h0), (1, .int (nI jt)), (2, .int x2)]) hx hb dX12_taken_91 rfl hl (by decide) rfl (fun ls hl => ?_)
              refine lv_goto (tgt := 78) hx hb dX12_taken_92 (by decide) ?_
              refine lv_iload_n hx hb dX12_taken_78 rfl (lv_at hl 0 rfl) ?_
              refine lv_if_lt (tgt := 95) hx hb dX12_taken_79 (by decide) (fun c9 => absurd c9 (by decide)) (fun _ => ?_)
              refine lv_iload_n hx hb dX12_taken_82 rfl (lv_at hl 0 rfl) ?_
              refine lv_iload_n hx hb dX12_taken_83 rfl (lv_at hl 3 rfl) ?_
              refine lv_icmp_eq (tgt := 95) hx hb dX12_taken_84 (by decide) (fun c_84_5848 => ?_) (fun c_84_5848 => ?_)
              · refine lv_iload_n hx hb dX12_taken_95 rfl (lv_at hl 0 rfl) ?_
                refine lv_iload_n hx hb dX12_taken_96 rfl (lv_at hl 3 rfl) ?_
                refine lv_icmp_ne (tgt := 109) hx hb dX12_taken_97 (by decide) (fun c9 => absurd (c_84_5848) c9) (fun _ => ?_)
                refine lv_aload_n hx hb dX12_taken_100 rfl (lv_at hl 1 rfl) ?_
                refine gf_X12_75 hC rfl hK hP 0 rfl rfl dX12_taken_101 ?_
                refine lv_iload_n hx hb dX12_taken_104 rfl (lv_at hl 2 rfl) ?_
                refine ald hC hK hP 3 rfl (vp_in_nI (by omega) (by omega)) (k := jt) (nI_clamp (by omega)) (v := fnsf jt) rfl dX12_taken_105 ?_
                refine lv_topi (fun x5849 ex5849 => ?_)
                refine lv_goto (tgt := 111) hx hb dX12_taken_106 (by decide) ?_
                exact RP (v := x5849) hC (trivial) rfl dX12_taken_111
              · refine lv_iload_n hx hb dX12_taken_87 rfl (lv_at hl 0 rfl) ?_
                refine pS hC hK hl (m_above0 l G) si_X12_348 rfl rfl (Nat.le_of_ble_eq_true rfl) ⟨Nat.le_of_ble_eq_true rfl, Nat.le_of_ble_eq_true rfl⟩ ⟨by first | exact Nat.le_of_ble_eq_true rfl | exact Nat.zero_le _, by first | exact Nat.le_of_ble_eq_true rfl | exact Nat.zero_le _⟩ dX12_taken_88 (fun r5850 hr5850 => ?_)
                obtain rfl := hr5850
                refine lv_istore_n (lv' := [(3, .int (-1)), (0, .ref h0), (1, .int (nI jt)), (2, .int x2)]) hx hb dX12_taken_91 rfl hl (by decide) rfl (fun ls hl => ?_)
                refine lv_goto (tgt := 78) hx hb dX12_taken_92 (by decide) ?_
                refine lv_iload_n hx hb dX12_taken_78 rfl (lv_at hl 0 rfl) ?_
                refine lv_if_lt (tgt := 95) hx hb dX12_taken_79 (by decide) (fun _ => ?_) (fun c9 => absurd (by decide) c9)
                refine lv_iload_n hx hb dX12_taken_95 rfl (lv_at hl 0 rfl) ?_
                refine lv_iload_n hx hb dX12_taken_96 rfl (lv_at hl 3 rfl) ?_
                refine lv_icmp_ne (tgt := 109) hx hb dX12_taken_97 (by decide) (fun c_97_5852 => ?_) (fun c_97_5852 => ?_)
                · refine lv_bipush (v := (-13)) hx hb dX12_taken_109 (by decide) ?_
                  exact RP (v := (-13)) hC (trivial) rfl dX12_taken_111
                · refine lv_aload_n hx hb dX12_taken_100 rfl (lv_at hl 1 rfl) ?_
                  refine gf_X12_75 hC rfl hK hP 0 rfl rfl dX12_taken_101 ?_
                  refine lv_iload_n hx hb dX12_taken_104 rfl (lv_at hl 2 rfl) ?_
                  refine ald hC hK hP 3 rfl (vp_in_nI (by omega) (by omega)) (k := jt) (nI_clamp (by omega)) (v := fnsf jt) rfl dX12_taken_105 ?_
                  refine lv_topi (fun x5853 ex5853 => ?_)
                  refine lv_goto (tgt := 111) hx hb dX12_taken_106 (by decide) ?_
                  exact RP (v := x5853) hC (trivial) rfl dX12_taken_111
        · refine lv_istore_n (lv' := [(3, .int 4), (0, .ref h0), (1, .int (nI jt)), (2, .int x2)]) hx hb dX12_taken_70 rfl hl (by decide) rfl (fun ls hl => ?_)
          refine lv_iload_n hx hb dX12_taken_71 rfl (lv_at hl 0 rfl) ?_
          refine lv_if_ge (tgt := 78) hx hb dX12_taken_72 (by decide) (fun _ => ?_) (fun c9 => absurd (by decide) c9)
          refine lv_iload_n hx hb dX12_taken_78 rfl (lv_at hl 0 rfl) ?_
          refine lv_if_lt (tgt := 95) hx hb dX12_taken_79 (by decide) (fun c9 => absurd c9 (by decide)) (fun _ => ?_)
          refine lv_iload_n hx hb dX12_taken_82 rfl (lv_at hl 0 rfl) ?_
          refine lv_iload_n hx hb dX12_taken_83 rfl (lv_at hl 3 rfl) ?_
          refine lv_icmp_eq (tgt := 95) hx hb dX12_taken_84 (by decide) (fun c_84_5854 => ?_) (fun c_84_5854 => ?_)
          · refine lv_iload_n hx hb dX12_taken_95 rfl (lv_at hl 0 rfl) ?_
            refine lv_iload_n hx hb dX12_taken_96 rfl (lv_at hl 3 rfl) ?_
            refine lv_icmp_ne (tgt := 109) hx hb dX12_taken_97 (by decide) (fun c9 => absurd (c_84_5854) c9) (fun _ => ?_)
            refine lv_aload_n hx hb dX12_taken_100 rfl (lv_at hl 1 rfl) ?_
            refine gf_X12_75 hC rfl hK hP 0 rfl rfl dX12_taken_101 ?_
            refine lv_iload_n hx hb dX12_taken_104 rfl (lv_at hl 2 rfl) ?_
            refine ald hC hK hP 3 rfl (vp_in_nI (by omega) (by omega)) (k := jt) (nI_clamp (by omega)) (v := fnsf jt) rfl dX12_taken_105 ?_
            refine lv_topi (fun x5855 ex5855 => ?_)
            refine lv_goto (tgt := 111) hx hb dX12_taken_106 (by decide) ?_
            exact RP (v := x5855) hC (trivial) rfl dX12_taken_111
          · refine lv_iload_n hx hb dX12_taken_87 rfl (lv_at hl 0 rfl) ?_
            refine pS hC hK hl (m_above4 l G) si_X12_348 rfl rfl (Nat.le_of_ble_eq_true rfl) ⟨Nat.le_of_ble_eq_true rfl, Nat.le_of_ble_eq_true rfl⟩ ⟨by first | exact Nat.le_of_ble_eq_true rfl | exact Nat.zero_le _, by first | exact Nat.le_of_ble_eq_true rfl | exact Nat.zero_le _⟩ dX12_taken_88 (fun r5856 hr5856 => ?_)
            obtain rfl := hr5856
            refine lv_istore_n (lv' := [(3, .int 0), (0, .ref h0), (1, .int (nI jt)), (2, .int x2)]) hx hb dX12_taken_91 rfl hl (by decide) rfl (fun ls hl => ?_)
            refine lv_goto (tgt := 78) hx hb dX12_taken_92 (by decide) ?_
            refine lv_iload_n hx hb dX12_taken_78 rfl (lv_at hl 0 rfl) ?_
            refine lv_if_lt (tgt := 95) hx hb dX12_taken_79 (by decide) (fun c9 => absurd c9 (by decide)) (fun _ => ?_)
            refine lv_iload_n hx hb dX12_taken_82 rfl (lv_at hl 0 rfl) ?_
            refine lv_iload_n hx hb dX12_taken_83 rfl (lv_at hl 3 rfl) ?_
            refine lv_icmp_eq (tgt := 95) hx hb dX12_taken_84 (by decide) (fun c_84_5858 => ?_) (fun c_84_5858 => ?_)
            · refine lv_iload_n hx hb dX12_taken_95 rfl (lv_at hl 0 rfl) ?_
              refine lv_iload_n hx hb dX12_taken_96 rfl (lv_at hl 3 rfl) ?_
              refine lv_icmp_ne (tgt := 109) hx hb dX12_taken_97 (by decide) (fun c9 => absurd (c_84_5858) c9) (fun _ => ?_)
              refine lv_aload_n hx hb dX12_taken_100 rfl (lv_at hl 1 rfl) ?_
              refine gf_X12_75 hC rfl hK hP 0 rfl rfl dX12_taken_101 ?_
              refine lv_iload_n hx hb dX12_taken_104 rfl (lv_at hl 2 rfl) ?_
              refine ald hC hK hP 3 rfl (vp_in_nI (by omega) (by omega)) (k := jt) (nI_clamp (by omega)) (v := fnsf jt) rfl dX12_taken_105 ?_
              refine lv_topi (fun x5859 ex5859 => ?_)
              refine lv_goto (tgt := 111) hx hb dX12_taken_106 (by decide) ?_
              exact RP (v := x5859) hC (trivial) rfl dX12_taken_111
            · refine lv_iload_n hx hb dX12_taken_87 rfl (lv_at hl 0 rfl) ?_
              refine pS hC hK hl (m_above0 l G) si_X12_348 rfl rfl (Nat.le_of_ble_eq_true rfl) ⟨Nat.le_of_ble_eq_true rfl, Nat.le_of_ble_eq_true rfl⟩ ⟨by first | exact Nat.le_of_ble_eq_true rfl | exact Nat.zero_le _, by first | exact Nat.le_of_ble_eq_true rfl | exact Nat.zero_le _⟩ dX12_taken_88 (fun r5860 hr5860 => ?_)
              obtain rfl := hr5860
              refine lv_istore_n (lv' := [(3, .int (-1)), (0, .ref h0), (1, .int (nI jt)), (2, .int x2)]) hx hb dX12_taken_91 rfl hl (by decide) rfl (fun ls hl => ?_)
              refine lv_goto (tgt := 78) hx hb dX12_taken_92 (by decide) ?_
              refine lv_iload_n hx hb dX12_taken_78 rfl (lv_at hl 0 rfl) ?_
              refine lv_if_lt (tgt := 95) hx hb dX12_taken_79 (by decide) (fun _ => ?_) (fun c9 => absurd (by decide) c9)
              refine lv_iload_n hx hb dX12_taken_95 rfl (lv_at hl 0 rfl) ?_
              refine lv_iload_n hx hb dX12_taken_96 rfl (lv_at hl 3 rfl) ?_
              refine lv_icmp_ne (tgt := 109) hx hb dX12_taken_97 (by decide) (fun c_97_5862 => ?_) (fun c_97_5862 => ?_)
              · refine lv_bipush (v := (-13)) hx hb dX12_taken_109 (by decide) ?_
                exact RP (v := (-13)) hC (trivial) rfl dX12_taken_111
              · refine lv_aload_n hx hb dX12_taken_100 rfl (lv_at hl 1 rfl) ?_
                refine gf_X12_75 hC rfl hK hP 0 rfl rfl dX12_taken_101 ?_
                refine lv_iload_n hx hb dX12_taken_104 rfl (lv_at hl 2 rfl) ?_
                refine ald hC hK hP 3 rfl (vp_in_nI (by omega) (by omega)) (k := jt) (nI_clamp (by omega)) (v := fnsf jt) rfl dX12_taken_105 ?_
                refine lv_topi (fun x5863 ex5863 => ?_)
                refine lv_goto (tgt := 111) hx hb dX12_taken_106 (by decide) ?_
                exact RP (v := x5863) hC (trivial) rfl dX12_taken_111
        · refine lv_istore_n (lv' := [(3, .int 5), (0, .ref h0), (1, .int (nI jt)), (2, .int x2)]) hx hb dX12_taken_70 rfl hl (by decide) rfl (fun ls hl => ?_)
          refine lv_iload_n hx hb dX12_taken_71 rfl (lv_at hl 0 rfl) ?_
          refine lv_if_ge (tgt := 78) hx hb dX12_taken_72 (by decide) (fun _ => ?_) (fun c9 => absurd (by decide) c9)
          refine lv_iload_n hx hb dX12_taken_78 rfl (lv_at hl 0 rfl) ?_
          refine lv_if_lt (tgt := 95) hx hb dX12_taken_79 (by decide) (fun c9 => absurd c9 (by decide)) (fun _ => ?_)
          refine lv_iload_n hx hb dX12_taken_82 rfl (lv_at hl 0 rfl) ?_
          refine lv_iload_n hx hb dX12_taken_83 rfl (lv_at hl 3 rfl) ?_
          refine lv_icmp_eq (tgt := 95) hx hb dX12_taken_84 (by decide) (fun c_84_5864 => ?_) (fun c_84_5864 => ?_)
          · refine lv_iload_n hx hb dX12_taken_95 rfl (lv_at hl 0 rfl) ?_
            refine lv_iload_n hx hb dX12_taken_96 rfl (lv_at hl 3 rfl) ?_
            refine lv_icmp_ne (tgt := 109) hx hb dX12_taken_97 (by decide) (fun c9 => absurd (c_84_5864) c9) (fun _ => ?_)
            refine lv_aload_n hx hb dX12_taken_100 rfl (lv_at hl 1 rfl) ?_
            refine gf_X12_75 hC rfl hK hP 0 rfl rfl dX12_taken_101 ?_
            refine lv_iload_n hx hb dX12_taken_104 rfl (lv_at hl 2 rfl) ?_
            refine ald hC hK hP 3 rfl (vp_in_nI (by omega) (by omega)) (k := jt) (nI_clamp (by omega)) (v := fnsf jt) rfl dX12_taken_105 ?_
            refine lv_topi (fun x5865 ex5865 => ?_)
            refine lv_goto (tgt := 111) hx hb dX12_taken_106 (by decide) ?_
            exact RP (v := x5865) hC (trivial) rfl dX12_taken_111
          · refine lv_iload_n hx hb dX12_taken_87 rfl (lv_at hl 0 rfl) ?_
            refine pS hC hK hl (m_above5 l G) si_X12_348 rfl rfl (Nat.le_of_ble_eq_true rfl) ⟨Nat.le_of_ble_eq_true rfl, Nat.le_of_ble_eq_true rfl⟩ ⟨by first | exact Nat.le_of_ble_eq_true rfl | exact Nat.zero_le _, by first | exact Nat.le_of_ble_eq_true rfl | exact Nat.zero_le _⟩ dX12_taken_88 (fun r5866 hr5866 => ?_)
            obtain rfl := hr5866
            refine lv_istore_n (lv' := [(3, .int 4), (0, .ref h0), (1, .int (nI jt)), (2, .int x2)]) hx hb dX12_taken_91 rfl hl (by decide) rfl (fun ls hl => ?_)
            refine lv_goto (tgt := 78) hx hb dX12_taken_92 (by decide) ?_
            refine lv_iload_n hx hb dX12_taken_78 rfl (lv_at hl 0 rfl) ?_
            refine lv_if_lt (tgt := 95) hx hb dX12_taken_79 (by decide) (fun c9 => absurd c9 (by decide)) (fun _ => ?_)
            refine lv_iload_n hx hb dX12_taken_82 rfl (lv_at hl 0 rfl) ?_
            refine lv_iload_n hx hb dX12_taken_83 rfl (lv_at hl 3 rfl) ?_
            refine lv_icmp_eq (tgt := 95) hx hb dX12_taken_84 (by decide) (fun c_84_5868 => ?_) (fun c_84_5868 => ?_)
            · refine lv_iload_n hx hb dX12_taken_95 rfl (lv_at hl 0 rfl) ?_
              refine lv_iload_n hx hb dX12_taken_96 rfl (lv_at hl 3 rfl) ?_
              refine lv_icmp_ne (tgt := 109) hx hb dX12_taken_97 (by decide) (fun c9 => absurd (c_84_5868) c9) (fun _ => ?_)
              refine lv_aload_n hx hb dX12_taken_100 rfl (lv_at hl 1 rfl) ?_
              refine gf_X12_75 hC rfl hK hP 0 rfl rfl dX12_taken_101 ?_
              refine lv_iload_n hx hb dX12_taken_104 rfl (lv_at hl 2 rfl) ?_
              refine ald hC hK hP 3 rfl (vp_in_nI (by omega) (by omega)) (k := jt) (nI_clamp (by omega)) (v := fnsf jt) rfl dX12_taken_105 ?_
              refine lv_topi (fun x5869 ex5869 => ?_)
              refine lv_goto (tgt := 111) hx hb dX12_taken_106 (by decide) ?_
              exact RP (v := x5869) hC (trivial) rfl dX12_taken_111
            · refine lv_iload_n hx hb dX12_taken_87 rfl (lv_at hl 0 rfl) ?_
              refine pS hC hK hl (m_above4 l G) si_X12_348 rfl rfl (Nat.le_of_ble_eq_true rfl) ⟨Nat.le_of_ble_eq_true rfl, Nat.le_of_ble_eq_true rfl⟩ ⟨by first | exact Nat.le_of_ble_eq_true rfl | exact Nat.zero_le _, by first | exact Nat.le_of_ble_eq_true rfl | exact Nat.zero_le _⟩ dX12_taken_88 (fun r5870 hr5870 => ?_)
              obtain rfl := hr5870
              refine lv_istore_n (lv' := [(3, .int 0), (0, .ref h0), (1, .int (nI jt)), (2, .int x2)]) hx hb dX12_taken_91 rfl hl (by decide) rfl (fun ls hl => ?_)
              refine lv_goto (tgt := 78) hx hb dX12_taken_92 (by decide) ?_
              refine lv_iload_n hx hb dX12_taken_78 rfl (lv_at hl 0 rfl) ?_
              refine lv_if_lt (tgt := 95) hx hb dX12_taken_79 (by decide) (fun c9 => absurd c9 (by decide)) (fun _ => ?_)
              refine lv_iload_n hx hb dX12_taken_82 rfl (lv_at hl 0 rfl) ?_
              refine lv_iload_n hx hb dX12_taken_83 rfl (lv_at hl 3 rfl) ?_
              refine lv_icmp_eq (tgt := 95) hx hb dX12_taken_84 (by decide) (fun c_84_5872 => ?_) (fun c_84_5872 => ?_)
              · refine lv_iload_n hx hb dX12_taken_95 rfl (lv_at hl 0 rfl) ?_
                refine lv_iload_n hx hb dX12_taken_96 rfl (lv_at hl 3 rfl) ?_
                refine lv_icmp_ne (tgt := 109) hx hb dX12_taken_97 (by decide) (fun c9 => absurd (c_84_5872) c9) (fun _ => ?_)
                refine lv_aload_n hx hb dX12_taken_100 rfl (lv_at hl 1 rfl) ?_
                refine gf_X12_75 hC rfl hK hP 0 rfl rfl dX12_taken_101 ?_
                refine lv_iload_n hx hb dX12_taken_104 rfl (lv_at hl 2 rfl) ?_
                refine ald hC hK hP 3 rfl (vp_in_nI (by omega) (by omega)) (k := jt) (nI_clamp (by omega)) (v := fnsf jt) rfl dX12_taken_105 ?_
                refine lv_topi (fun x5873 ex5873 => ?_)
                refine lv_goto (tgt := 111) hx hb dX12_taken_106 (by decide) ?_
                exact RP (v := x5873) hC (trivial) rfl dX12_taken_111
              · refine lv_iload_n hx hb dX12_taken_87 rfl (lv_at hl 0 rfl) ?_
                refine pS hC hK hl (m_above0 l G) si_X12_348 rfl rfl (Nat.le_of_ble_eq_true rfl) ⟨Nat.le_of_ble_eq_true rfl, Nat.le_of_ble_eq_true rfl⟩ ⟨by first | exact Nat.le_of_ble_eq_true rfl | exact Nat.zero_le _, by first | exact Nat.le_of_ble_eq_true rfl | exact Nat.zero_le _⟩ dX12_taken_88 (fun r5874 hr5874 => ?_)
                obtain rfl := hr5874
                refine lv_istore_n (lv' := [(3, .int (-1)), (0, .ref h0), (1, .int (nI jt)), (2, .int x2)]) hx hb dX12_taken_91 rfl hl (by decide) rfl (fun ls hl => ?_)
                refine lv_goto (tgt := 78) hx hb dX12_taken_92 (by decide) ?_
                refine lv_iload_n hx hb dX12_taken_78 rfl (lv_at hl 0 rfl) ?_
                refine lv_if_lt (tgt := 95) hx hb dX12_taken_79 (by decide) (fun _ => ?_) (fun c9 => absurd (by decide) c9)
                refine lv_iload_n hx hb dX12_taken_95 rfl (lv_at hl 0 rfl) ?_
                refine lv_iload_n hx hb dX12_taken_96 rfl (lv_at hl 3 rfl) ?_
                refine lv_icmp_ne (tgt := 109) hx hb dX12_taken_97 (by decide) (fun c_97_5876 => ?_) (fun c_97_5876 => ?_)
                · refine lv_bipush (v := (-13)) hx hb dX12_taken_109 (by decide) ?_
                  exact RP (v := (-13)) hC (trivial) rfl dX12_taken_111
                · refine lv_aload_n hx hb dX12_taken_100 rfl (lv_at hl 1 rfl) ?_
                  refine gf_X12_75 hC rfl hK hP 0 rfl rfl dX12_taken_101 ?_
                  refine lv_iload_n hx hb dX12_taken_104 rfl (lv_at hl 2 rfl) ?_
                  refine ald hC hK hP 3 rfl (vp_in_nI (by omega) (by omega)) (k := jt) (nI_clamp (by omega)) (v := fnsf jt) rfl dX12_taken_105 ?_
                  refine lv_topi (fun x5877 ex5877 => ?_)
                  refine lv_goto (tgt := 111) hx hb dX12_taken_106 (by decide) ?_
                  exact RP (v := x5877) hC (trivial) rfl dX12_taken_111
        · refine lv_istore_n (lv' := [(3, .int 6), (0, .ref h0), (1, .int (nI jt)), (2, .int x2)]) hx hb dX12_taken_70 rfl hl (by decide) rfl (fun ls hl => ?_)
          refine lv_iload_n hx hb dX12_taken_71 rfl (lv_at hl 0 rfl) ?_
          refine lv_if_ge (tgt := 78) hx hb dX12_taken_72 (by decide) (fun _ => ?_) (fun c9 => absurd (by decide) c9)
          refine lv_iload_n hx hb dX12_taken_78 rfl (lv_at hl 0 rfl) ?_
          refine lv_if_lt (tgt := 95) hx hb dX12_taken_79 (by decide) (fun c9 => absurd c9 (by decide)) (fun _ => ?_)
          refine lv_iload_n hx hb dX12_taken_82 rfl (lv_at hl 0 rfl) ?_
          refine lv_iload_n hx hb dX12_taken_83 rfl (lv_at hl 3 rfl) ?_
          refine lv_icmp_eq (tgt := 95) hx hb dX12_taken_84 (by decide) (fun c_84_5878 => ?_) (fun c_84_5878 => ?_)
          · refine lv_iload_n hx hb dX12_taken_95 rfl (lv_at hl 0 rfl) ?_
            refine lv_iload_n hx hb dX12_taken_96 rfl (lv_at hl 3 rfl) ?_
            refine lv_icmp_ne (tgt := 109) hx hb dX12_taken_97 (by decide) (fun c9 => absurd (c_84_5878) c9) (fun _ => ?_)
            refine lv_aload_n hx hb dX12_taken_100 rfl (lv_at hl 1 rfl) ?_
            refine gf_X12_75 hC rfl hK hP 0 rfl rfl dX12_taken_101 ?_
            refine lv_iload_n hx hb dX12_taken_104 rfl (lv_at hl 2 rfl) ?_
            refine ald hC hK hP 3 rfl (vp_in_nI (by omega) (by omega)) (k := jt) (nI_clamp (by omega)) (v := fnsf jt) rfl dX12_taken_105 ?_
            refine lv_topi (fun x5879 ex5879 => ?_)
            refine lv_goto (tgt := 111) hx hb dX12_taken_106 (by decide) ?_
            exact RP (v := x5879) hC (trivial) rfl dX12_taken_111
          · refine lv_iload_n hx hb dX12_taken_87 rfl (lv_at hl 0 rfl) ?_
            refine pS hC hK hl (m_above6 l G) si_X12_348 rfl rfl (Nat.le_of_ble_eq_true rfl) ⟨Nat.le_of_ble_eq_true rfl, Nat.le_of_ble_eq_true rfl⟩ ⟨by first | exact Nat.le_of_ble_eq_true rfl | exact Nat.zero_le _, by first | exact Nat.le_of_ble_eq_true rfl | exact Nat.zero_le _⟩ dX12_taken_88 (fun r5880 hr5880 => ?_)
            obtain rfl := hr5880
            refine lv_istore_n (lv' := [(3, .int 0), (0, .ref h0), (1, .int (nI jt)), (2, .int x2)]) hx hb dX12_taken_91 rfl hl (by decide) rfl (fun ls hl => ?_)
            refine lv_goto (tgt := 78) hx hb dX12_taken_92 (by decide) ?_
            refine lv_iload_n hx hb dX12_taken_78 rfl (lv_at hl 0 rfl) ?_
            refine lv_if_lt (tgt := 95) hx hb dX12_taken_79 (by decide) (fun c9 => absurd c9 (by decide)) (fun _ => ?_)
            refine lv_iload_n hx hb dX12_taken_82 rfl (lv_at hl 0 rfl) ?_
            refine lv_iload_n hx hb dX12_taken_83 rfl (lv_at hl 3 rfl) ?_
            refine lv_icmp_eq (tgt := 95) hx hb dX12_taken_84 (by decide) (fun c_84_5882 => ?_) (fun c_84_5882 => ?_)
            · refine lv_iload_n hx hb dX12_taken_95 rfl (lv_at hl 0 rfl) ?_
              refine lv_iload_n hx hb dX12_taken_96 rfl (lv_at hl 3 rfl) ?_
              refine lv_icmp_ne (tgt := 109) hx hb dX12_taken_97 (by decide) (fun c9 => absurd (c_84_5882) c9) (fun _ => ?_)
              refine lv_aload_n hx hb dX12_taken_100 rfl (lv_at hl 1 rfl) ?_
              refine gf_X12_75 hC rfl hK hP 0 rfl rfl dX12_taken_101 ?_
              refine lv_iload_n hx hb dX12_taken_104 rfl (lv_at hl 2 rfl) ?_
              refine ald hC hK hP 3 rfl (vp_in_nI (by omega) (by omega)) (k := jt) (nI_clamp (by omega)) (v := fnsf jt) rfl dX12_taken_105 ?_
              refine lv_topi (fun x5883 ex5883 => ?_)
              refine lv_goto (tgt := 111) hx hb dX12_taken_106 (by decide) ?_
              exact RP (v := x5883) hC (trivial) rfl dX12_taken_111
            · refine lv_iload_n hx hb dX12_taken_87 rfl (lv_at hl 0 rfl) ?_
              refine pS hC hK hl (m_above0 l G) si_X12_348 rfl rfl (Nat.le_of_ble_eq_true rfl) ⟨Nat.le_of_ble_eq_true rfl, Nat.le_of_ble_eq_true rfl⟩ ⟨by first | exact Nat.le_of_ble_eq_true rfl | exact Nat.zero_le _, by first | exact Nat.le_of_ble_eq_true rfl | exact Nat.zero_le _⟩ dX12_taken_88 (fun r5884 hr5884 => ?_)
              obtain rfl := hr5884
              refine lv_istore_n (lv' := [(3, .int (-1)), (0, .ref h0), (1, .int (nI jt)), (2, .int x2)]) hx hb dX12_taken_91 rfl hl (by decide) rfl (fun ls hl => ?_)
              refine lv_goto (tgt := 78) hx hb dX12_taken_92 (by decide) ?_
              refine lv_iload_n hx hb dX12_taken_78 rfl (lv_at hl 0 rfl) ?_
              refine lv_if_lt (tgt := 95) hx hb dX12_taken_79 (by decide) (fun _ => ?_) (fun c9 => absurd (by decide) c9)
              refine lv_iload_n hx hb dX12_taken_95 rfl (lv_at hl 0 rfl) ?_
              refine lv_iload_n hx hb dX12_taken_96 rfl (lv_at hl 3 rfl) ?_
              refine lv_icmp_ne (tgt := 109) hx hb dX12_taken_97 (by decide) (fun c_97_5886 => ?_) (fun c_97_5886 => ?_)
              · refine lv_bipush (v := (-13)) hx hb dX12_taken_109 (by decide) ?_
                exact RP (v := (-13)) hC (trivial) rfl dX12_taken_111
              · refine lv_aload_n hx hb dX12_taken_100 rfl (lv_at hl 1 rfl) ?_
                refine gf_X12_75 hC rfl hK hP 0 rfl rfl dX12_taken_101 ?_
                refine lv_iload_n hx hb dX12_taken_104 rfl (lv_at hl 2 rfl) ?_
                refine ald hC hK hP 3 rfl (vp_in_nI (by omega) (by omega)) (k := jt) (nI_clamp (by omega)) (v := fnsf jt) rfl dX12_taken_105 ?_
                refine lv_topi (fun x5887 ex5887 => ?_)
                refine lv_goto (tgt := 111) hx hb dX12_taken_106 (by decide) ?_
                exact RP (v := x5887) hC (trivial) rfl dX12_taken_111
      · refine lv_iload_n hx hb dX12_taken_40 rfl (lv_at hl 2 rfl) ?_
        refine lv_bipush (v := 10) hx hb dX12_taken_41 (by decide) ?_
        refine lv_isub hx hb dX12_taken_43 ?_
        refine lv_aload_n hx hb dX12_taken_44 rfl (lv_at hl 0 rfl) ?_
        refine gf_X12_75 hC rfl hK hP 0 rfl rfl dX12_taken_45 ?_
        refine lv_iload_n hx hb dX12_taken_48 rfl (lv_at hl 1 rfl) ?_
        refine ald hC hK hP 3 rfl (vp_in_nI (by omega) (by omega)) (k := jt) (nI_clamp (by omega)) (v := fnsf jt) rfl dX12_taken_49 ?_
        refine lv_topi (fun x5888 ex5888 => ?_)
        refine lv_icmp_ne (tgt := 62) hx hb dX12_taken_50 (by decide) (fun c_50_5889 => ?_) (fun c_50_5889 => ?_)
        · refine lv_bipush (v := (-13)) hx hb dX12_taken_62 (by decide) ?_
          exact RP (v := (-13)) hC (trivial) rfl dX12_taken_64
        · refine lv_aload_n hx hb dX12_taken_53 rfl (lv_at hl 0 rfl) ?_
          refine gf_X12_78 hC rfl hK hP 0 rfl rfl dX12_taken_54 ?_
          refine lv_iload_n hx hb dX12_taken_57 rfl (lv_at hl 1 rfl) ?_
          refine ald hC hK hP 4 rfl (vp_in_nI (by omega) (by omega)) (k := jt) (nI_clamp (by omega)) (v := fnss jt) rfl dX12_taken_58 ?_
          refine lv_topi (fun x5890 ex5890 => ?_)
          refine lv_goto (tgt := 64) hx hb dX12_taken_59 (by decide) ?_
          exact RP (v := x5890) hC (trivial) rfl dX12_taken_64
    · refine lv_if_ne (tgt := 30) hx hb dX12_taken_14 (by decide) (fun c9 => absurd (by decide) c9) (fun _ => ?_)
      refine lv_iload_n hx hb dX12_taken_17 rfl (lv_at hl 2 rfl) ?_
      refine lv_bipush (v := 10) hx hb dX12_taken_18 (by decide) ?_
      refine lv_bipush (v := 14) hx hb dX12_taken_20 (by decide) ?_
      refine pS hC hK hl (m_within l G x2 10 14) si_X12_84 rfl rfl (Nat.le_of_ble_eq_true rfl) ⟨Nat.le_of_ble_eq_true rfl, Nat.le_of_ble_eq_true rfl⟩ ⟨by first | exact Nat.le_of_ble_eq_true rfl | exact Nat.zero_le _, by first | exact Nat.le_of_ble_eq_true rfl | exact Nat.zero_le _⟩ dX12_taken_22 (fun r5891 hr5891 => ?_)
      rcases hr5891 with ⟨rfl, a5892⟩ | ⟨rfl, a5892⟩
      · refine lv_if_ne (tgt := 30) hx hb dX12_taken_25 (by decide) (fun _ => ?_) (fun c9 => absurd c9 (by decide))
        obtain ⟨jt, hjt, rfl⟩ := Wi_nat (N := 3) (by decide) a5813
        refine lv_aload_n hx hb dX12_taken_30 rfl (lv_at hl 0 rfl) ?_
        refine gf_X12_72 hC rfl hK hP 0 rfl rfl dX12_taken_31 ?_
        refine lv_iload_n hx hb dX12_taken_34 rfl (lv_at hl 1 rfl) ?_
        refine ald hC hK hP 2 rfl (vp_in_nI (by omega) (by omega)) (k := jt) (nI_clamp (by omega)) (v := fnsh jt) rfl dX12_taken_35 ?_
        refine lv_topi (fun x5893 ex5893 => ?_)
        refine lv_iconst (v := 4) hx hb dX12_taken_36 (by decide) ?_
        refine lv_icmp_ne (tgt := 65) hx hb dX12_taken_37 (by decide) (fun c_37_5894 => ?_) (fun c_37_5894 => ?_)
        · refine lv_aload_n hx hb dX12_taken_65 rfl (lv_at hl 0 rfl) ?_
          refine lv_iload_n hx hb dX12_taken_66 rfl (lv_at hl 1 rfl) ?_
          refine pV hC hK hl hP hD (m_kindOn l G h0 jt nw nk mhasKept nt mtaped nr mrowMany mroundOf mroundFrom mouts nm mfromHour mtoHour ns mfrom mto msort misFault mdeep mcoded mlines nl nc nF np ntr nb mbestCost nso nsi nit nsh nsf nss nrc mtraced mdealer mnumber mwhose msize misParted fnw fnsh fnsf (by omega) (hN)) si_X12_345 [0, 1, 2, 3] rfl rfl (by decide) rfl rfl rfl rfl rfl (Nat.le_of_ble_eq_true rfl) ⟨Nat.le_of_ble_eq_true rfl, Nat.le_of_ble_eq_true rfl⟩ ⟨by first | exact Nat.le_of_ble_eq_true rfl | exact Nat.zero_le _, by first | exact Nat.le_of_ble_eq_true rfl | exact Nat.zero_le _⟩ dX12_taken_67 (fun r5895 hr5895 => ?_)
          rcases hr5895 with rfl | ⟨rfl, a5896⟩ | ⟨rfl, a5896⟩ | ⟨rfl, a5896⟩ | ⟨rfl, a5896⟩ | ⟨rfl, a5896⟩ | ⟨rfl, a5896⟩
          · refine lv_istore_n (lv' := [(3, .int (-1)), (0, .ref h0), (1, .int (nI jt)), (2, .int x2)]) hx hb dX12_taken_70 rfl hl (by decide) rfl (fun ls hl => ?_)
            refine lv_iload_n hx hb dX12_taken_71 rfl (lv_at hl 0 rfl) ?_
            refine lv_if_ge (tgt := 78) hx hb dX12_taken_72 (by decide) (fun c9 => absurd c9 (by decide)) (fun _ => ?_)
            refine lv_bipush (v := (-11)) hx hb dX12_taken_75 (by decide) ?_
            exact RP (v := (-11)) hC (trivial) rfl dX12_taken_77
          · refine lv_istore_n (lv' := [(3, .int 1), (0, .ref h0), (1, .int (nI jt)), (2, .int x2)]) hx hb dX12_taken_70 rfl hl (by decide) rfl (fun ls hl => ?_)
            refine lv_iload_n hx hb dX12_taken_71 rfl (lv_at hl 0 rfl) ?_
            refine lv_if_ge (tgt := 78) hx hb dX12_taken_72 (by decide) (fun _ => ?_) (fun c9 => absurd (by decide) c9)
            refine lv_iload_n hx hb dX12_taken_78 rfl (lv_at hl 0 rfl) ?_
            refine lv_if_lt (tgt := 95) hx hb dX12_taken_79 (by decide) (fun c9 => absurd c9 (by decide)) (fun _ => ?_)
            refine lv_iload_n hx hb dX12_taken_82 rfl (lv_at hl 0 rfl) ?_
            refine lv_iload_n hx hb dX12_taken_83 rfl (lv_at hl 3 rfl) ?_
            refine lv_icmp_eq (tgt := 95) hx hb dX12_taken_84 (by decide) (fun c_84_5897 => ?_) (fun c_84_5897 => ?_)
            · refine lv_iload_n hx hb dX12_taken_95 rfl (lv_at hl 0 rfl) ?_
              refine lv_iload_n hx hb dX12_taken_96 rfl (lv_at hl 3 rfl) ?_
              refine lv_icmp_ne (tgt := 109) hx hb dX12_taken_97 (by decide) (fun c9 => absurd (c_84_5897) c9) (fun _ => ?_)
              refine lv_aload_n hx hb dX12_taken_100 rfl (lv_at hl 1 rfl) ?_
              refine gf_X12_75 hC rfl hK hP 0 rfl rfl dX12_taken_101 ?_
              refine lv_iload_n hx hb dX12_taken_104 rfl (lv_at hl 2 rfl) ?_
              refine ald hC hK hP 3 rfl (vp_in_nI (by omega) (by omega)) (k := jt) (nI_clamp (by omega)) (v := fnsf jt) rfl dX12_taken_105 ?_
              refine lv_topi (fun x5898 ex5898 => ?_)
              refine lv_goto (tgt := 111) hx hb dX12_taken_106 (by decide) ?_
              exact RP (v := x5898) hC (trivial) rfl dX12_taken_111
            · refine lv_iload_n hx hb dX12_taken_87 rfl (lv_at hl 0 rfl) ?_
              refine pS hC hK hl (m_above1 l G) si_X12_348 rfl rfl (Nat.le_of_ble_eq_true rfl) ⟨Nat.le_of_ble_eq_true rfl, Nat.le_of_ble_eq_true rfl⟩ ⟨by first | exact Nat.le_of_ble_eq_true rfl | exact Nat.zero_le _, by first | exact Nat.le_of_ble_eq_true rfl | exact Nat.zero_le _⟩ dX12_taken_88 (fun r5899 hr5899 => ?_)
              obtain rfl := hr5899
              refine lv_istore_n (lv' := [(3, .int 0), (0, .ref h0), (1, .int (nI jt)), (2, .int x2)]) hx hb dX12_taken_91 rfl hl (by decide) rfl (fun ls hl => ?_)
              refine lv_goto (tgt := 78) hx hb dX12_taken_92 (by decide) ?_
              refine lv_iload_n hx hb dX12_taken_78 rfl (lv_at hl 0 rfl) ?_
              refine lv_if_lt (tgt := 95) hx hb dX12_taken_79 (by decide) (fun c9 => absurd c9 (by decide)) (fun _ => ?_)
              refine lv_iload_n hx hb dX12_taken_82 rfl (lv_at hl 0 rfl) ?_
              refine lv_iload_n hx hb dX12_taken_83 rfl (lv_at hl 3 rfl) ?_
              refine lv_icmp_eq (tgt := 95) hx hb dX12_taken_84 (by decide) (fun c_84_5901 => ?_) (fun c_84_5901 => ?_)
              · refine lv_iload_n hx hb dX12_taken_95 rfl (lv_at hl 0 rfl) ?_
                refine lv_iload_n hx hb dX12_taken_96 rfl (lv_at hl 3 rfl) ?_
                refine lv_icmp_ne (tgt := 109) hx hb dX12_taken_97 (by decide) (fun c9 => absurd (c_84_5901) c9) (fun _ => ?_)
                refine lv_aload_n hx hb dX12_taken_100 rfl (lv_at hl 1 rfl) ?_
                refine gf_X12_75 hC rfl hK hP 0 rfl rfl dX12_taken_101 ?_
                refine lv_iload_n hx hb dX12_taken_104 rfl (lv_at hl 2 rfl) ?_
                refine ald hC hK hP 3 rfl (vp_in_nI (by omega) (by omega)) (k := jt) (nI_clamp (by omega)) (v := fnsf jt) rfl dX12_taken_105 ?_
                refine lv_topi (fun x5902 ex5902 => ?_)
                refine lv_goto (tgt := 111) hx hb dX12_taken_106 (by decide) ?_
                exact RP (v := x5902) hC (trivial) rfl dX12_taken_111
              · refine lv_iload_n hx hb dX12_taken_87 rfl (lv_at hl 0 rfl) ?_
                refine pS hC hK hl (m_above0 l G) si_X12_348 rfl rfl (Nat.le_of_ble_eq_true rfl) ⟨Nat.le_of_ble_eq_true rfl, Nat.le_of_ble_eq_true rfl⟩ ⟨by first | exact Nat.le_of_ble_eq_true rfl | exact Nat.zero_le _, by first | exact Nat.le_of_ble_eq_true rfl | exact Nat.zero_le _⟩ dX12_taken_88 (fun r5903 hr5903 => ?_)
                obtain rfl := hr5903
                refine lv_istore_n (lv' := [(3, .int (-1)), (0, .ref h0), (1, .int (nI jt)), (2, .int x2)]) hx hb dX12_taken_91 rfl hl (by decide) rfl (fun ls hl => ?_)
                refine lv_goto (tgt := 78) hx hb dX12_taken_92 (by decide) ?_
                refine lv_iload_n hx hb dX12_taken_78 rfl (lv_at hl 0 rfl) ?_
                refine lv_if_lt (tgt := 95) hx hb dX12_taken_79 (by decide) (fun _ => ?_) (fun c9 => absurd (by decide) c9)
                refine lv_iload_n hx hb dX12_taken_95 rfl (lv_at hl 0 rfl) ?_
                refine lv_iload_n hx hb dX12_taken_96 rfl (lv_at hl 3 rfl) ?_
                refine lv_icmp_ne (tgt := 109) hx hb dX12_taken_97 (by decide) (fun c_97_5905 => ?_) (fun c_97_5905 => ?_)
                · refine lv_bipush (v := (-13)) hx hb dX12_taken_109 (by decide) ?_
                  exact RP (v := (-13)) hC (trivial) rfl dX12_taken_111
                · refine lv_aload_n hx hb dX12_taken_100 rfl (lv_at hl 1 rfl) ?_
                  refine gf_X12_75 hC rfl hK hP 0 rfl rfl dX12_taken_101 ?_
                  refine lv_iload_n hx hb dX12_taken_104 rfl (lv_at hl 2 rfl) ?_
                  refine ald hC hK hP 3 rfl (vp_in_nI (by omega) (by omega)) (k := jt) (nI_clamp (by omega)) (v := fnsf jt) rfl dX12_taken_105 ?_
                  refine lv_topi (fun x5906 ex5906 => ?_)
                  refine lv_goto (tgt := 111) hx hb dX12_taken_106 (by decide) ?_
                  exact RP (v := x5906) hC (trivial) rfl dX12_taken_111
          · refine lv_istore_n (lv' := [(3, .int 2), (0, .ref h0), (1, .int (nI jt)), (2, .int x2)]) hx hb dX12_taken_70 rfl hl (by decide) rfl (fun ls hl => ?_)
            refine lv_iload_n hx hb dX12_taken_71 rfl (lv_at hl 0 rfl) ?_
            refine lv_if_ge (tgt := 78) hx hb dX12_taken_72 (by decide) (fun _ => ?_) (fun c9 => absurd (by decide) c9)
            refine lv_iload_n hx hb dX12_taken_78 rfl (lv_at hl 0 rfl) ?_
            refine lv_if_lt (tgt := 95) hx hb dX12_taken_79 (by decide) (fun c9 => absurd c9 (by decide)) (fun _ => ?_)
            refine lv_iload_n hx hb dX12_taken_82 rfl (lv_at hl 0 rfl) ?_
            refine lv_iload_n hx hb dX12_taken_83 rfl (lv_at hl 3 rfl) ?_
            refine lv_icmp_eq (tgt := 95) hx hb dX12_taken_84 (by decide) (fun c_84_5907 => ?_) (fun c_84_5907 => ?_)
            · refine lv_iload_n hx hb dX12_taken_95 rfl (lv_at hl 0 rfl) ?_
              refine lv_iload_n hx hb dX12_taken_96 rfl (lv_at hl 3 rfl) ?_
              refine lv_icmp_ne (tgt := 109) hx hb dX12_taken_97 (by decide) (fun c9 => absurd (c_84_5907) c9) (fun _ => ?_)
              refine lv_aload_n hx hb dX12_taken_100 rfl (lv_at hl 1 rfl) ?_
              refine gf_X12_75 hC rfl hK hP 0 rfl rfl dX12_taken_101 ?_
              refine lv_iload_n hx hb dX12_taken_104 rfl (lv_at hl 2 rfl) ?_
              refine ald hC hK hP 3 rfl (vp_in_nI (by omega) (by omega)) (k := jt) (nI_clamp (by omega)) (v := fnsf jt) rfl dX12_taken_105 ?_
              refine lv_topi (fun x5908 ex5908 => ?_)
              refine lv_goto (tgt := 111) hx hb dX12_taken_106 (by decide) ?_
              exact RP (v := x5908) hC (trivial) rfl dX12_taken_111
            · refine lv_iload_n hx hb dX12_taken_87 rfl (lv_at hl 0 rfl) ?_
              refine pS hC hK hl (m_above2 l G) si_X12_348 rfl rfl (Nat.le_of_ble_eq_true rfl) ⟨Nat.le_of_ble_eq_true rfl, Nat.le_of_ble_eq_true rfl⟩ ⟨by first | exact Nat.le_of_ble_eq_true rfl | exact Nat.zero_le _, by first | exact Nat.le_of_ble_eq_true rfl | exact Nat.zero_le _⟩ dX12_taken_88 (fun r5909 hr5909 => ?_)
              obtain rfl := hr5909
              refine lv_istore_n (lv' := [(3, .int 0), (0, .ref h0), (1, .int (nI jt)), (2, .int x2)]) hx hb dX12_taken_91 rfl hl (by decide) rfl (fun ls hl => ?_)
              refine lv_goto (tgt := 78) hx hb dX12_taken_92 (by decide) ?_
              refine lv_iload_n hx hb dX12_taken_78 rfl (lv_at hl 0 rfl) ?_
              refine lv_if_lt (tgt := 95) hx hb dX12_taken_79 (by decide) (fun c9 => absurd c9 (by decide)) (fun _ => ?_)
              refine lv_iload_n hx hb dX12_taken_82 rfl (lv_at hl 0 rfl) ?_
              refine lv_iload_n hx hb dX12_taken_83 rfl (lv_at hl 3 rfl) ?_
              refine lv_icmp_eq (tgt := 95) hx hb dX12_taken_84 (by decide) (fun c_84_5911 => ?_) (fun c_84_5911 => ?_)
              · refine lv_iload_n hx hb dX12_taken_95 rfl (lv_at hl 0 rfl) ?_
                refine lv_iload_n hx hb dX12_taken_96 rfl (lv_at hl 3 rfl) ?_
                refine lv_icmp_ne (tgt := 109) hx hb dX12_taken_97 (by decide) (fun c9 => absurd (c_84_5911) c9) (fun _ => ?_)
                refine lv_aload_n hx hb dX12_taken_100 rfl (lv_at hl 1 rfl) ?_
                refine gf_X12_75 hC rfl hK hP 0 rfl rfl dX12_taken_101 ?_
                refine lv_iload_n hx hb dX12_taken_104 rfl (lv_at hl 2 rfl) ?_
                refine ald hC hK hP 3 rfl (vp_in_nI (by omega) (by omega)) (k := jt) (nI_clamp (by omega)) (v := fnsf jt) rfl dX12_taken_105 ?_
                refine lv_topi (fun x5912 ex5912 => ?_)
                refine lv_goto (tgt := 111) hx hb dX12_taken_106 (by decide) ?_
                exact RP (v := x5912) hC (trivial) rfl dX12_taken_111
              · refine lv_iload_n hx hb dX12_taken_87 rfl (lv_at hl 0 rfl) ?_
                refine pS hC hK hl (m_above0 l G) si_X12_348 rfl rfl (Nat.le_of_ble_eq_true rfl) ⟨Nat.le_of_ble_eq_true rfl, Nat.le_of_ble_eq_true rfl⟩ ⟨by first | exact Nat.le_of_ble_eq_true rfl | exact Nat.zero_le _, by first | exact Nat.le_of_ble_eq_true rfl | exact Nat.zero_le _⟩ dX12_taken_88 (fun r5913 hr5913 => ?_)
                obtain rfl := hr5913
                refine lv_istore_n (lv' := [(3, .int (-1)), (0, .ref h0), (1, .int (nI jt)), (2, .int x2)]) hx hb dX12_taken_91 rfl hl (by decide) rfl (fun ls hl => ?_)
                refine lv_goto (tgt := 78) hx hb dX12_taken_92 (by decide) ?_
                refine lv_iload_n hx hb dX12_taken_78 rfl (lv_at hl 0 rfl) ?_
                refine lv_if_lt (tgt := 95) hx hb dX12_taken_79 (by decide) (fun _ => ?_) (fun c9 => absurd (by decide) c9)
                refine lv_iload_n hx hb dX12_taken_95 rfl (lv_at hl 0 rfl) ?_
                refine lv_iload_n hx hb dX12_taken_96 rfl (lv_at hl 3 rfl) ?_
                refine lv_icmp_ne (tgt := 109) hx hb dX12_taken_97 (by decide) (fun c_97_5915 => ?_) (fun c_97_5915 => ?_)
                · refine lv_bipush (v := (-13)) hx hb dX12_taken_109 (by decide) ?_
                  exact RP (v := (-13)) hC (trivial) rfl dX12_taken_111
                · refine lv_aload_n hx hb dX12_taken_100 rfl (lv_at hl 1 rfl) ?_
                  refine gf_X12_75 hC rfl hK hP 0 rfl rfl dX12_taken_101 ?_
                  refine lv_iload_n hx hb dX12_taken_104 rfl (lv_at hl 2 rfl) ?_
                  refine ald hC hK hP 3 rfl (vp_in_nI (by omega) (by omega)) (k := jt) (nI_clamp (by omega)) (v := fnsf jt) rfl dX12_taken_105 ?_
                  refine lv_topi (fun x5916 ex5916 => ?_)
                  refine lv_goto (tgt := 111) hx hb dX12_taken_106 (by decide) ?_
                  exact RP (v := x5916) hC (trivial) rfl dX12_taken_111
          · refine lv_istore_n (lv' := [(3, .int 3), (0, .ref h0), (1, .int (nI jt)), (2, .int x2)]) hx hb dX12_taken_70 rfl hl (by decide) rfl (fun ls hl => ?_)
            refine lv_iload_n hx hb dX12_taken_71 rfl (lv_at hl 0 rfl) ?_
            refine lv_if_ge (tgt := 78) hx hb dX12_taken_72 (by decide) (fun _ => ?_) (fun c9 => absurd (by decide) c9)
            refine lv_iload_n hx hb dX12_taken_78 rfl (lv_at hl 0 rfl) ?_
            refine lv_if_lt (tgt := 95) hx hb dX12_taken_79 (by decide) (fun c9 => absurd c9 (by decide)) (fun _ => ?_)
            refine lv_iload_n hx hb dX12_taken_82 rfl (lv_at hl 0 rfl) ?_
            refine lv_iload_n hx hb dX12_taken_83 rfl (lv_at hl 3 rfl) ?_
            refine lv_icmp_eq (tgt := 95) hx hb dX12_taken_84 (by decide) (fun c_84_5917 => ?_) (fun c_84_5917 => ?_)
            · refine lv_iload_n hx hb dX12_taken_95 rfl (lv_at hl 0 rfl) ?_
              refine lv_iload_n hx hb dX12_taken_96 rfl (lv_at hl 3 rfl) ?_
              refine lv_icmp_ne (tgt := 109) hx hb dX12_taken_97 (by decide) (fun c9 => absurd (c_84_5917) c9) (fun _ => ?_)
              refine lv_aload_n hx hb dX12_taken_100 rfl (lv_at hl 1 rfl) ?_
              refine gf_X12_75 hC rfl hK hP 0 rfl rfl dX12_taken_101 ?_
              refine lv_iload_n hx hb dX12_taken_104 rfl (lv_at hl 2 rfl) ?_
              refine ald hC hK hP 3 rfl (vp_in_nI (by omega) (by omega)) (k := jt) (nI_clamp (by omega)) (v := fnsf jt) rfl dX12_taken_105 ?_
              refine lv_topi (fun x5918 ex5918 => ?_)
              refine lv_goto (tgt := 111) hx hb dX12_taken_106 (by decide) ?_
              exact RP (v := x5918) hC (trivial) rfl dX12_taken_111
            · refine lv_iload_n hx hb dX12_taken_87 rfl (lv_at hl 0 rfl) ?_
              refine pS hC hK hl (m_above3 l G) si_X12_348 rfl rfl (Nat.le_of_ble_eq_true rfl) ⟨Nat.le_of_ble_eq_true rfl, Nat.le_of_ble_eq_true rfl⟩ ⟨by first | exact Nat.le_of_ble_eq_true rfl | exact Nat.zero_le _, by first | exact Nat.le_of_ble_eq_true rfl | exact Nat.zero_le _⟩ dX12_taken_88 (fun r5919 hr5919 => ?_)
              obtain rfl := hr5919
              refine lv_istore_n (lv' := [(3, .int 1), (0, .ref h0), (1, .int (nI jt)), (2, .int x2)]) hx hb dX12_taken_91 rfl hl (by decide) rfl (fun ls hl => ?_)
              refine lv_goto (tgt := 78) hx hb dX12_taken_92 (by decide) ?_
              refine lv_iload_n hx hb dX12_taken_78 rfl (lv_at hl 0 rfl) ?_
              refine lv_if_lt (tgt := 95) hx hb dX12_taken_79 (by decide) (fun c9 => absurd c9 (by decide)) (fun _ => ?_)
              refine lv_iload_n hx hb dX12_taken_82 rfl (lv_at hl 0 rfl) ?_
              refine lv_iload_n hx hb dX12_taken_83 rfl (lv_at hl 3 rfl) ?_
              refine lv_icmp_eq (tgt := 95) hx hb dX12_taken_84 (by decide) (fun c_84_5921 => ?_) (fun c_84_5921 => ?_)
              · refine lv_iload_n hx hb dX12_taken_95 rfl (lv_at hl 0 rfl) ?_
                refine lv_iload_n hx hb dX12_taken_96 rfl (lv_at hl 3 rfl) ?_
                refine lv_icmp_ne (tgt := 109) hx hb dX12_taken_97 (by decide) (fun c9 => absurd (c_84_5921) c9) (fun _ => ?_)
                refine lv_aload_n hx hb dX12_taken_100 rfl (lv_at hl 1 rfl) ?_
                refine gf_X12_75 hC rfl hK hP 0 rfl rfl dX12_taken_101 ?_
                refine lv_iload_n hx hb dX12_taken_104 rfl (lv_at hl 2 rfl) ?_
                refine ald hC hK hP 3 rfl (vp_in_nI (by omega) (by omega)) (k := jt) (nI_clamp (by omega)) (v := fnsf jt) rfl dX12_taken_105 ?_
                refine lv_topi (fun x5922 ex5922 => ?_)
                refine lv_goto (tgt := 111) hx hb dX12_taken_106 (by decide) ?_
                exact RP (v := x5922) hC (trivial) rfl dX12_taken_111
              · refine lv_iload_n hx hb dX12_taken_87 rfl (lv_at hl 0 rfl) ?_
                refine pS hC hK hl (m_above1 l G) si_X12_348 rfl rfl (Nat.le_of_ble_eq_true rfl) ⟨Nat.le_of_ble_eq_true rfl, Nat.le_of_ble_eq_true rfl⟩ ⟨by first | exact Nat.le_of_ble_eq_true rfl | exact Nat.zero_le _, by first | exact Nat.le_of_ble_eq_true rfl | exact Nat.zero_le _⟩ dX12_taken_88 (fun r5923 hr5923 => ?_)
                obtain rfl := hr5923
                refine lv_istore_n (lv' := [(3, .int 0), (0, .ref h0), (1, .int (nI jt)), (2, .int x2)]) hx hb dX12_taken_91 rfl hl (by decide) rfl (fun ls hl => ?_)
                refine lv_goto (tgt := 78) hx hb dX12_taken_92 (by decide) ?_
                refine lv_iload_n hx hb dX12_taken_78 rfl (lv_at hl 0 rfl) ?_
                refine lv_if_lt (tgt := 95) hx hb dX12_taken_79 (by decide) (fun c9 => absurd c9 (by decide)) (fun _ => ?_)
                refine lv_iload_n hx hb dX12_taken_82 rfl (lv_at hl 0 rfl) ?_
                refine lv_iload_n hx hb dX12_taken_83 rfl (lv_at hl 3 rfl) ?_
                refine lv_icmp_eq (tgt := 95) hx hb dX12_taken_84 (by decide) (fun c_84_5925 => ?_) (fun c_84_5925 => ?_)
                · refine lv_iload_n hx hb dX12_taken_95 rfl (lv_at hl 0 rfl) ?_
                  refine lv_iload_n hx hb dX12_taken_96 rfl (lv_at hl 3 rfl) ?_
                  refine lv_icmp_ne (tgt := 109) hx hb dX12_taken_97 (by decide) (fun c9 => absurd (c_84_5925) c9) (fun _ => ?_)
                  refine lv_aload_n hx hb dX12_taken_100 rfl (lv_at hl 1 rfl) ?_
                  refine gf_X12_75 hC rfl hK hP 0 rfl rfl dX12_taken_101 ?_
                  refine lv_iload_n hx hb dX12_taken_104 rfl (lv_at hl 2 rfl) ?_
                  refine ald hC hK hP 3 rfl (vp_in_nI (by omega) (by omega)) (k := jt) (nI_clamp (by omega)) (v := fnsf jt) rfl dX12_taken_105 ?_
                  refine lv_topi (fun x5926 ex5926 => ?_)
                  refine lv_goto (tgt := 111) hx hb dX12_taken_106 (by decide) ?_
                  exact RP (v := x5926) hC (trivial) rfl dX12_taken_111
                · refine lv_iload_n hx hb dX12_taken_87 rfl (lv_at hl 0 rfl) ?_
                  refine pS hC hK hl (m_above0 l G) si_X12_348 rfl rfl (Nat.le_of_ble_eq_true rfl) ⟨Nat.le_of_ble_eq_true rfl, Nat.le_of_ble_eq_true rfl⟩ ⟨by first | exact Nat.le_of_ble_eq_true rfl | exact Nat.zero_le _, by first | exact Nat.le_of_ble_eq_true rfl | exact Nat.zero_le _⟩ dX12_taken_88 (fun r5927 hr5927 => ?_)
                  obtain rfl := hr5927
                  refine lv_istore_n (lv' := [(3, .int (-1)), (0, .ref h0), (1, .int (nI jt)), (2, .int x2)]) hx hb dX12_taken_91 rfl hl (by decide) rfl (fun ls hl => ?_)
                  refine lv_goto (tgt := 78) hx hb dX12_taken_92 (by decide) ?_
                  refine lv_iload_n hx hb dX12_taken_78 rfl (lv_at hl 0 rfl) ?_
                  refine lv_if_lt (tgt := 95) hx hb dX12_taken_79 (by decide) (fun _ => ?_) (fun c9 => absurd (by decide) c9)
                  refine lv_iload_n hx hb dX12_taken_95 rfl (lv_at hl 0 rfl) ?_
                  refine lv_iload_n hx hb dX12_taken_96 rfl (lv_at hl 3 rfl) ?_
                  refine lv_icmp_ne (tgt := 109) hx hb dX12_taken_97 (by decide) (fun c_97_5929 => ?_) (fun c_97_5929 => ?_)
                  · refine lv_bipush (v := (-13)) hx hb dX12_taken_109 (by decide) ?_
                    exact RP (v := (-13)) hC (trivial) rfl dX12_taken_111
                  · refine lv_aload_n hx hb dX12_taken_100 rfl (lv_at hl 1 rfl) ?_
                    refine gf_X12_75 hC rfl hK hP 0 rfl rfl dX12_taken_101 ?_
                    refine lv_iload_n hx hb dX12_taken_104 rfl (lv_at hl 2 rfl) ?_
                    refine ald hC hK hP 3 rfl (vp_in_nI (by omega) (by omega)) (k := jt) (nI_clamp (by omega)) (v := fnsf jt) rfl dX12_taken_105 ?_
                    refine lv_topi (fun x5930 ex5930 => ?_)
                    refine lv_goto (tgt := 111) hx hb dX12_taken_106 (by decide) ?_
                    exact RP (v := x5930) hC (trivial) rfl dX12_taken_111
          · refine lv_istore_n (lv' := [(3, .int 4), (0, .ref h0), (1, .int (nI jt)), (2, .int x2)]) hx hb dX12_taken_70 rfl hl (by decide) rfl (fun ls hl => ?_)
            refine lv_iload_n hx hb dX12_taken_71 rfl (lv_at hl 0 rfl) ?_
            refine lv_if_ge (tgt := 78) hx hb dX12_taken_72 (by decide) (fun _ => ?_) (fun c9 => absurd (by decide) c9)
            refine lv_iload_n hx hb dX12_taken_78 rfl (lv_at hl 0 rfl) ?_
            refine lv_if_lt (tgt := 95) hx hb dX12_taken_79 (by decide) (fun c9 => absurd c9 (by decide)) (fun _ => ?_)
            refine lv_iload_n hx hb dX12_taken_82 rfl (lv_at hl 0 rfl) ?_
            refine lv_iload_n hx hb dX12_taken_83 rfl (lv_at hl 3 rfl) ?_
            refine lv_icmp_eq (tgt := 95) hx hb dX12_taken_84 (by decide) (fun c_84_5931 => ?_) (fun c_84_5931 => ?_)
            · refine lv_iload_n hx hb dX12_taken_95 rfl (lv_at hl 0 rfl) ?_
              refine lv_iload_n hx hb dX12_taken_96 rfl (lv_at hl 3 rfl) ?_
              refine lv_icmp_ne (tgt := 109) hx hb dX12_taken_97 (by decide) (fun c9 => absurd (c_84_5931) c9) (fun _ => ?_)
              refine lv_aload_n hx hb dX12_taken_100 rfl (lv_at hl 1 rfl) ?_
              refine gf_X12_75 hC rfl hK hP 0 rfl rfl dX12_taken_101 ?_
              refine lv_iload_n hx hb dX12_taken_104 rfl (lv_at hl 2 rfl) ?_
              refine ald hC hK hP 3 rfl (vp_in_nI (by omega) (by omega)) (k := jt) (nI_clamp (by omega)) (v := fnsf jt) rfl dX12_taken_105 ?_
              refine lv_topi (fun x5932 ex5932 => ?_)
              refine lv_goto (tgt := 111) hx hb dX12_taken_106 (by decide) ?_
              exact RP (v := x5932) hC (trivial) rfl dX12_taken_111
            · refine lv_iload_n hx hb dX12_taken_87 rfl (lv_at hl 0 rfl) ?_
              refine pS hC hK hl (m_above4 l G) si_X12_348 rfl rfl (Nat.le_of_ble_eq_true rfl) ⟨Nat.le_of_ble_eq_true rfl, Nat.le_of_ble_eq_true rfl⟩ ⟨by first | exact Nat.le_of_ble_eq_true rfl | exact Nat.zero_le _, by first | exact Nat.le_of_ble_eq_true rfl | exact Nat.zero_le _⟩ dX12_taken_88 (fun r5933 hr5933 => ?_)
              obtain rfl := hr5933
              refine lv_istore_n (lv' := [(3, .int 0), (0, .ref h0), (1, .int (nI jt)), (2, .int x2)]) hx hb dX12_taken_91 rfl hl (by decide) rfl (fun ls hl => ?_)
              refine lv_goto (tgt := 78) hx hb dX12_taken_92 (by decide) ?_
              refine lv_iload_n hx hb dX12_taken_78 rfl (lv_at hl 0 rfl) ?_
              refine lv_if_lt (tgt := 95) hx hb dX12_taken_79 (by decide) (fun c9 => absurd c9 (by decide)) (fun _ => ?_)
              refine lv_iload_n hx hb dX12_taken_82 rfl (lv_at hl 0 rfl) ?_
              refine lv_iload_n hx hb dX12_taken_83 rfl (lv_at hl 3 rfl) ?_
              refine lv_icmp_eq (tgt := 95) hx hb dX12_taken_84 (by decide) (fun c_84_5935 => ?_) (fun c_84_5935 => ?_)
              · refine lv_iload_n hx hb dX12_taken_95 rfl (lv_at hl 0 rfl) ?_
                refine lv_iload_n hx hb dX12_taken_96 rfl (lv_at hl 3 rfl) ?_
                refine lv_icmp_ne (tgt := 109) hx hb dX12_taken_97 (by decide) (fun c9 => absurd (c_84_5935) c9) (fun _ => ?_)
                refine lv_aload_n hx hb dX12_taken_100 rfl (lv_at hl 1 rfl) ?_
                refine gf_X12_75 hC rfl hK hP 0 rfl rfl dX12_taken_101 ?_
                refine lv_iload_n hx hb dX12_taken_104 rfl (lv_at hl 2 rfl) ?_
                refine ald hC hK hP 3 rfl (vp_in_nI (by omega) (by omega)) (k := jt) (nI_clamp (by omega)) (v := fnsf jt) rfl dX12_taken_105 ?_
                refine lv_topi (fun x5936 ex5936 => ?_)
                refine lv_goto (tgt := 111) hx hb dX12_taken_106 (by decide) ?_
                exact RP (v := x5936) hC (trivial) rfl dX12_taken_111
              · refine lv_iload_n hx hb dX12_taken_87 rfl (lv_at hl 0 rfl) ?_
                refine pS hC hK hl (m_above0 l G) si_X12_348 rfl rfl (Nat.le_of_ble_eq_true rfl) ⟨Nat.le_of_ble_eq_true rfl, Nat.le_of_ble_eq_true rfl⟩ ⟨by first | exact Nat.le_of_ble_eq_true rfl | exact Nat.zero_le _, by first | exact Nat.le_of_ble_eq_true rfl | exact Nat.zero_le _⟩ dX12_taken_88 (fun r5937 hr5937 => ?_)
                obtain rfl := hr5937
                refine lv_istore_n (lv' := [(3, .int (-1)), (0, .ref h0), (1, .int (nI jt)), (2, .int x2)]) hx hb dX12_taken_91 rfl hl (by decide) rfl (fun ls hl => ?_)
                refine lv_goto (tgt := 78) hx hb dX12_taken_92 (by decide) ?_
                refine lv_iload_n hx hb dX12_taken_78 rfl (lv_at hl 0 rfl) ?_
                refine lv_if_lt (tgt := 95) hx hb dX12_taken_79 (by decide) (fun _ => ?_) (fun c9 => absurd (by decide) c9)
                refine lv_iload_n hx hb dX12_taken_95 rfl (lv_at hl 0 rfl) ?_
                refine lv_iload_n hx hb dX12_taken_96 rfl (lv_at hl 3 rfl) ?_
                refine lv_icmp_ne (tgt := 109) hx hb dX12_taken_97 (by decide) (fun c_97_5939 => ?_) (fun c_97_5939 => ?_)
                · refine lv_bipush (v := (-13)) hx hb dX12_taken_109 (by decide) ?_
                  exact RP (v := (-13)) hC (trivial) rfl dX12_taken_111
                · refine lv_aload_n hx hb dX12_taken_100 rfl (lv_at hl 1 rfl) ?_
                  refine gf_X12_75 hC rfl hK hP 0 rfl rfl dX12_taken_101 ?_
                  refine lv_iload_n hx hb dX12_taken_104 rfl (lv_at hl 2 rfl) ?_
                  refine ald hC hK hP 3 rfl (vp_in_nI (by omega) (by omega)) (k := jt) (nI_clamp (by omega)) (v := fnsf jt) rfl dX12_taken_105 ?_
                  refine lv_topi (fun x5940 ex5940 => ?_)
                  refine lv_goto (tgt := 111) hx hb dX12_taken_106 (by decide) ?_
                  exact RP (v := x5940) hC (trivial) rfl dX12_taken_111
          · refine lv_istore_n (lv' := [(3, .int 5), (0, .ref h0), (1, .int (nI jt)), (2, .int x2)]) hx hb dX12_taken_70 rfl hl (by decide) rfl (fun ls hl => ?_)
            refine lv_iload_n hx hb dX12_taken_71 rfl (lv_at hl 0 rfl) ?_
            refine lv_if_ge (tgt := 78) hx hb dX12_taken_72 (by decide) (fun _ => ?_) (fun c9 => absurd (by decide) c9)
            refine lv_iload_n hx hb dX12_taken_78 rfl (lv_at hl 0 rfl) ?_
            refine lv_if_lt (tgt := 95) hx hb dX12_taken_79 (by decide) (fun c9 => absurd c9 (by decide)) (fun _ => ?_)
            refine lv_iload_n hx hb dX12_taken_82 rfl (lv_at hl 0 rfl) ?_
            refine lv_iload_n hx hb dX12_taken_83 rfl (lv_at hl 3 rfl) ?_
            refine lv_icmp_eq (tgt := 95) hx hb dX12_taken_84 (by decide) (fun c_84_5941 => ?_) (fun c_84_5941 => ?_)
            · refine lv_iload_n hx hb dX12_taken_95 rfl (lv_at hl 0 rfl) ?_
              refine lv_iload_n hx hb dX12_taken_96 rfl (lv_at hl 3 rfl) ?_
              refine lv_icmp_ne (tgt := 109) hx hb dX12_taken_97 (by decide) (fun c9 => absurd (c_84_5941) c9) (fun _ => ?_)
              refine lv_aload_n hx hb dX12_taken_100 rfl (lv_at hl 1 rfl) ?_
              refine gf_X12_75 hC rfl hK hP 0 rfl rfl dX12_taken_101 ?_
              refine lv_iload_n hx hb dX12_taken_104 rfl (lv_at hl 2 rfl) ?_
              refine ald hC hK hP 3 rfl (vp_in_nI (by omega) (by omega)) (k := jt) (nI_clamp (by omega)) (v := fnsf jt) rfl dX12_taken_105 ?_
              refine lv_topi (fun x5942 ex5942 => ?_)
              refine lv_goto (tgt := 111) hx hb dX12_taken_106 (by decide) ?_
              exact RP (v := x5942) hC (trivial) rfl dX12_taken_111
            · refine lv_iload_n hx hb dX12_taken_87 rfl (lv_at hl 0 rfl) ?_
              refine pS hC hK hl (m_above5 l G) si_X12_348 rfl rfl (Nat.le_of_ble_eq_true rfl) ⟨Nat.le_of_ble_eq_true rfl, Nat.le_of_ble_eq_true rfl⟩ ⟨by first | exact Nat.le_of_ble_eq_true rfl | exact Nat.zero_le _, by first | exact Nat.le_of_ble_eq_true rfl | exact Nat.zero_le _⟩ dX12_taken_88 (fun r5943 hr5943 => ?_)
              obtain rfl := hr5943
              refine lv_istore_n (lv' := [(3, .int 4), (0, .ref h0), (1, .int (nI jt)), (2, .int x2)]) hx hb dX12_taken_91 rfl hl (by decide) rfl (fun ls hl => ?_)
              refine lv_goto (tgt := 78) hx hb dX12_taken_92 (by decide) ?_
              refine lv_iload_n hx hb dX12_taken_78 rfl (lv_at hl 0 rfl) ?_
              refine lv_if_lt (tgt := 95) hx hb dX12_taken_79 (by decide) (fun c9 => absurd c9 (by decide)) (fun _ => ?_)
              refine lv_iload_n hx hb dX12_taken_82 rfl (lv_at hl 0 rfl) ?_
              refine lv_iload_n hx hb dX12_taken_83 rfl (lv_at hl 3 rfl) ?_
              refine lv_icmp_eq (tgt := 95) hx hb dX12_taken_84 (by decide) (fun c_84_5945 => ?_) (fun c_84_5945 => ?_)
              · refine lv_iload_n hx hb dX12_taken_95 rfl (lv_at hl 0 rfl) ?_
                refine lv_iload_n hx hb dX12_taken_96 rfl (lv_at hl 3 rfl) ?_
                refine lv_icmp_ne (tgt := 109) hx hb dX12_taken_97 (by decide) (fun c9 => absurd (c_84_5945) c9) (fun _ => ?_)
                refine lv_aload_n hx hb dX12_taken_100 rfl (lv_at hl 1 rfl) ?_
                refine gf_X12_75 hC rfl hK hP 0 rfl rfl dX12_taken_101 ?_
                refine lv_iload_n hx hb dX12_taken_104 rfl (lv_at hl 2 rfl) ?_
                refine ald hC hK hP 3 rfl (vp_in_nI (by omega) (by omega)) (k := jt) (nI_clamp (by omega)) (v := fnsf jt) rfl dX12_taken_105 ?_
                refine lv_topi (fun x5946 ex5946 => ?_)
                refine lv_goto (tgt := 111) hx hb dX12_taken_106 (by decide) ?_
                exact RP (v := x5946) hC (trivial) rfl dX12_taken_111
              · refine lv_iload_n hx hb dX12_taken_87 rfl (lv_at hl 0 rfl) ?_
                refine pS hC hK hl (m_above4 l G) si_X12_348 rfl rfl (Nat.le_of_ble_eq_true rfl) ⟨Nat.le_of_ble_eq_true rfl, Nat.le_of_ble_eq_true rfl⟩ ⟨by first | exact Nat.le_of_ble_eq_true rfl | exact Nat.zero_le _, by first | exact Nat.le_of_ble_eq_true rfl | exact Nat.zero_le _⟩ dX12_taken_88 (fun r5947 hr5947 => ?_)
                obtain rfl := hr5947
                refine lv_istore_n (lv' := [(3, .int 0), (0, .ref h0), (1, .int (nI jt)), (2, .int x2)]) hx hb dX12_taken_91 rfl hl (by decide) rfl (fun ls hl => ?_)
                refine lv_goto (tgt := 78) hx hb dX12_taken_92 (by decide) ?_
                refine lv_iload_n hx hb dX12_taken_78 rfl (lv_at hl 0 rfl) ?_
                refine lv_if_lt (tgt := 95) hx hb dX12_taken_79 (by decide) (fun c9 => absurd c9 (by decide)) (fun _ => ?_)
                refine lv_iload_n hx hb dX12_taken_82 rfl (lv_at hl 0 rfl) ?_
                refine lv_iload_n hx hb dX12_taken_83 rfl (lv_at hl 3 rfl) ?_
                refine lv_icmp_eq (tgt := 95) hx hb dX12_taken_84 (by decide) (fun c_84_5949 => ?_) (fun c_84_5949 => ?_)
                · refine lv_iload_n hx hb dX12_taken_95 rfl (lv_at hl 0 rfl) ?_
                  refine lv_iload_n hx hb dX12_taken_96 rfl (lv_at hl 3 rfl) ?_
                  refine lv_icmp_ne (tgt := 109) hx hb dX12_taken_97 (by decide) (fun c9 => absurd (c_84_5949) c9) (fun _ => ?_)
                  refine lv_aload_n hx hb dX12_taken_100 rfl (lv_at hl 1 rfl) ?_
                  refine gf_X12_75 hC rfl hK hP 0 rfl rfl dX12_taken_101 ?_
                  refine lv_iload_n hx hb dX12_taken_104 rfl (lv_at hl 2 rfl) ?_
                  refine ald hC hK hP 3 rfl (vp_in_nI (by omega) (by omega)) (k := jt) (nI_clamp (by omega)) (v := fnsf jt) rfl dX12_taken_105 ?_
                  refine lv_topi (fun x5950 ex5950 => ?_)
                  refine lv_goto (tgt := 111) hx hb dX12_taken_106 (by decide) ?_
                  exact RP (v := x5950) hC (trivial) rfl dX12_taken_111
                · refine lv_iload_n hx hb dX12_taken_87 rfl (lv_at hl 0 rfl) ?_
                  refine pS hC hK hl (m_above0 l G) si_X12_348 rfl rfl (Nat.le_of_ble_eq_true rfl) ⟨Nat.le_of_ble_eq_true rfl, Nat.le_of_ble_eq_true rfl⟩ ⟨by first | exact Nat.le_of_ble_eq_true rfl | exact Nat.zero_le _, by first | exact Nat.le_of_ble_eq_true rfl | exact Nat.zero_le _⟩ dX12_taken_88 (fun r5951 hr5951 => ?_)
                  obtain rfl := hr5951
                  refine lv_istore_n (lv' := [(3, .int (-1)), (0, .ref h0), (1, .int (nI jt)), (2, .int x2)]) hx hb dX12_taken_91 rfl hl (by decide) rfl (fun ls hl => ?_)
                  refine lv_goto (tgt := 78) hx hb dX12_taken_92 (by decide) ?_
                  refine lv_iload_n hx hb dX12_taken_78 rfl (lv_at hl 0 rfl) ?_
                  refine lv_if_lt (tgt := 95) hx hb dX12_taken_79 (by decide) (fun _ => ?_) (fun c9 => absurd (by decide) c9)
                  refine lv_iload_n hx hb dX12_taken_95 rfl (lv_at hl 0 rfl) ?_
                  refine lv_iload_n hx hb dX12_taken_96 rfl (lv_at hl 3 rfl) ?_
                  refine lv_icmp_ne (tgt := 109) hx hb dX12_taken_97 (by decide) (fun c_97_5953 => ?_) (fun c_97_5953 => ?_)
                  · refine lv_bipush (v := (-13)) hx hb dX12_taken_109 (by decide) ?_
                    exact RP (v := (-13)) hC (trivial) rfl dX12_taken_111
                  · refine lv_aload_n hx hb dX12_taken_100 rfl (lv_at hl 1 rfl) ?_
                    refine gf_X12_75 hC rfl hK hP 0 rfl rfl dX12_taken_101 ?_
                    refine lv_iload_n hx hb dX12_taken_104 rfl (lv_at hl 2 rfl) ?_
                    refine ald hC hK hP 3 rfl (vp_in_nI (by omega) (by omega)) (k := jt) (nI_clamp (by omega)) (v := fnsf jt) rfl dX12_taken_105 ?_
                    refine lv_topi (fun x5954 ex5954 => ?_)
                    refine lv_goto (tgt := 111) hx hb dX12_taken_106 (by decide) ?_
                    exact RP (v := x5954) hC (trivial) rfl dX12_taken_111
          · refine lv_istore_n (lv' := [(3, .int 6), (0, .ref h0), (1, .int (nI jt)), (2, .int x2)]) hx hb dX12_taken_70 rfl hl (by decide) rfl (fun ls hl => ?_)
            refine lv_iload_n hx hb dX12_taken_71 rfl (lv_at hl 0 rfl) ?_
            refine lv_if_ge (tgt := 78) hx hb dX12_taken_72 (by decide) (fun _ => ?_) (fun c9 => absurd (by decide) c9)
            refine lv_iload_n hx hb dX12_taken_78 rfl (lv_at hl 0 rfl) ?_
            refine lv_if_lt (tgt := 95) hx hb dX12_taken_79 (by decide) (fun c9 => absurd c9 (by decide)) (fun _ => ?_)
            refine lv_iload_n hx hb dX12_taken_82 rfl (lv_at hl 0 rfl) ?_
            refine lv_iload_n hx hb dX12_taken_83 rfl (lv_at hl 3 rfl) ?_
            refine lv_icmp_eq (tgt := 95) hx hb dX12_taken_84 (by decide) (fun c_84_5955 => ?_) (fun c_84_5955 => ?_)
            · refine lv_iload_n hx hb dX12_taken_95 rfl (lv_at hl 0 rfl) ?_
              refine lv_iload_n hx hb dX12_taken_96 rfl (lv_at hl 3 rfl) ?_
              refine lv_icmp_ne (tgt := 109) hx hb dX12_taken_97 (by decide) (fun c9 => absurd (c_84_5955) c9) (fun _ => ?_)
              refine lv_aload_n hx hb dX12_taken_100 rfl (lv_at hl 1 rfl) ?_
              refine gf_X12_75 hC rfl hK hP 0 rfl rfl dX12_taken_101 ?_
              refine lv_iload_n hx hb dX12_taken_104 rfl (lv_at hl 2 rfl) ?_
              refine ald hC hK hP 3 rfl (vp_in_nI (by omega) (by omega)) (k := jt) (nI_clamp (by omega)) (v := fnsf jt) rfl dX12_taken_105 ?_
              refine lv_topi (fun x5956 ex5956 => ?_)
              refine lv_goto (tgt := 111) hx hb dX12_taken_106 (by decide) ?_
              exact RP (v := x5956) hC (trivial) rfl dX12_taken_111
            · refine lv_iload_n hx hb dX12_taken_87 rfl (lv_at hl 0 rfl) ?_
              refine pS hC hK hl (m_above6 l G) si_X12_348 rfl rfl (Nat.le_of_ble_eq_true rfl) ⟨Nat.le_of_ble_eq_true rfl, Nat.le_of_ble_eq_true rfl⟩ ⟨by first | exact Nat.le_of_ble_eq_true rfl | exact Nat.zero_le _, by first | exact Nat.le_of_ble_eq_true rfl | exact Nat.zero_le _⟩ dX12_taken_88 (fun r5957 hr5957 => ?_)
              obtain rfl := hr5957
              refine lv_istore_n (lv' := [(3, .int 0), (0, .ref h0), (1, .int (nI jt)), (2, .int x2)]) hx hb dX12_taken_91 rfl hl (by decide) rfl (fun ls hl => ?_)
              refine lv_goto (tgt := 78) hx hb dX12_taken_92 (by decide) ?_
              refine lv_iload_n hx hb dX12_taken_78 rfl (lv_at hl 0 rfl) ?_
              refine lv_if_lt (tgt := 95) hx hb dX12_taken_79 (by decide) (fun c9 => absurd c9 (by decide)) (fun _ => ?_)
              refine lv_iload_n hx hb dX12_taken_82 rfl (lv_at hl 0 rfl) ?_
              refine lv_iload_n hx hb dX12_taken_83 rfl (lv_at hl 3 rfl) ?_
              refine lv_icmp_eq (tgt := 95) hx hb dX12_taken_84 (by decide) (fun c_84_5959 => ?_) (fun c_84_5959 => ?_)
              · refine lv_iload_n hx hb dX12_taken_95 rfl (lv_at hl 0 rfl) ?_
                refine lv_iload_n hx hb dX12_taken_96 rfl (lv_at hl 3 rfl) ?_
                refine lv_icmp_ne (tgt := 109) hx hb dX12_taken_97 (by decide) (fun c9 => absurd (c_84_5959) c9) (fun _ => ?_)
                refine lv_aload_n hx hb dX12_taken_100 rfl (lv_at hl 1 rfl) ?_
                refine gf_X12_75 hC rfl hK hP 0 rfl rfl dX12_taken_101 ?_
                refine lv_iload_n hx hb dX12_taken_104 rfl (lv_at hl 2 rfl) ?_
                refine ald hC hK hP 3 rfl (vp_in_nI (by omega) (by omega)) (k := jt) (nI_clamp (by omega)) (v := fnsf jt) rfl dX12_taken_105 ?_
                refine lv_topi (fun x5960 ex5960 => ?_)
                refine lv_goto (tgt := 111) hx hb dX12_taken_106 (by decide) ?_
                exact RP (v := x5960) hC (trivial) rfl dX12_taken_111
              · refine lv_iload_n hx hb dX12_taken_87 rfl (lv_at hl 0 rfl) ?_
                refine pS hC hK hl (m_above0 l G) si_X12_348 rfl rfl (Nat.le_of_ble_eq_true rfl) ⟨Nat.le_of_ble_eq_true rfl, Nat.le_of_ble_eq_true rfl⟩ ⟨by first | exact Nat.le_of_ble_eq_true rfl | exact Nat.zero_le _, by first | exact Nat.le_of_ble_eq_true rfl | exact Nat.zero_le _⟩ dX12_taken_88 (fun r5961 hr5961 => ?_)
                obtain rfl := hr5961
                refine lv_istore_n (lv' := [(3, .int (-1)), (0, .ref h0), (1, .int (nI jt)), (2, .int x2)]) hx hb dX12_taken_91 rfl hl (by decide) rfl (fun ls hl => ?_)
                refine lv_goto (tgt := 78) hx hb dX12_taken_92 (by decide) ?_
                refine lv_iload_n hx hb dX12_taken_78 rfl (lv_at hl 0 rfl) ?_
                refine lv_if_lt (tgt := 95) hx hb dX12_taken_79 (by decide) (fun _ => ?_) (fun c9 => absurd (by decide) c9)
                refine lv_iload_n hx hb dX12_taken_95 rfl (lv_at hl 0 rfl) ?_
                refine lv_iload_n hx hb dX12_taken_96 rfl (lv_at hl 3 rfl) ?_
                refine lv_icmp_ne (tgt := 109) hx hb dX12_taken_97 (by decide) (fun c_97_5963 => ?_) (fun c_97_5963 => ?_)
                · refine lv_bipush (v := (-13)) hx hb dX12_taken_109 (by decide) ?_
                  exact RP (v := (-13)) hC (trivial) rfl dX12_taken_111
                · refine lv_aload_n hx hb dX12_taken_100 rfl (lv_at hl 1 rfl) ?_
                  refine gf_X12_75 hC rfl hK hP 0 rfl rfl dX12_taken_101 ?_
                  refine lv_iload_n hx hb dX12_taken_104 rfl (lv_at hl 2 rfl) ?_
                  refine ald hC hK hP 3 rfl (vp_in_nI (by omega) (by omega)) (k := jt) (nI_clamp (by omega)) (v := fnsf jt) rfl dX12_taken_105 ?_
                  refine lv_topi (fun x5964 ex5964 => ?_)
                  refine lv_goto (tgt := 111) hx hb dX12_taken_106 (by decide) ?_
                  exact RP (v := x5964) hC (trivial) rfl dX12_taken_111
        · refine lv_iload_n hx hb dX12_taken_40 rfl (lv_at hl 2 rfl) ?_
          refine lv_bipush (v := 10) hx hb dX12_taken_41 (by decide) ?_
          refine lv_isub hx hb dX12_taken_43 ?_
          refine lv_aload_n hx hb dX12_taken_44 rfl (lv_at hl 0 rfl) ?_
          refine gf_X12_75 hC rfl hK hP 0 rfl rfl dX12_taken_45 ?_
          refine lv_iload_n hx hb dX12_taken_48 rfl (lv_at hl 1 rfl) ?_
          refine ald hC hK hP 3 rfl (vp_in_nI (by omega) (by omega)) (k := jt) (nI_clamp (by omega)) (v := fnsf jt) rfl dX12_taken_49 ?_
          refine lv_topi (fun x5965 ex5965 => ?_)
          refine lv_icmp_ne (tgt := 62) hx hb dX12_taken_50 (by decide) (fun c_50_5966 => ?_) (fun c_50_5966 => ?_)
          · refine lv_bipush (v := (-13)) hx hb dX12_taken_62 (by decide) ?_
            exact RP (v := (-13)) hC (trivial) rfl dX12_taken_64
          · refine lv_aload_n hx hb dX12_taken_53 rfl (lv_at hl 0 rfl) ?_
            refine gf_X12_78 hC rfl hK hP 0 rfl rfl dX12_taken_54 ?_
            refine lv_iload_n hx hb dX12_taken_57 rfl (lv_at hl 1 rfl) ?_
            refine ald hC hK hP 4 rfl (vp_in_nI (by omega) (by omega)) (k := jt) (nI_clamp (by omega)) (v := fnss jt) rfl dX12_taken_58 ?_
            refine lv_topi (fun x5967 ex5967 => ?_)
            refine lv_goto (tgt := 64) hx hb dX12_taken_59 (by decide) ?_
            exact RP (v := x5967) hC (trivial) rfl dX12_taken_64
      · refine lv_if_ne (tgt := 30) hx hb dX12_taken_25 (by decide) (fun c9 => absurd (by decide) c9) (fun _ => ?_)
        refine lv_iconst (v := (-1)) hx hb dX12_taken_28 (by decide) ?_
        exact RP (v := (-1)) hC (trivial) rfl dX12_taken_29
  · refine lv_if_eq (tgt := 28) hx hb dX12_taken_4 (by decide) (fun _ => ?_) (fun c9 => absurd (by decide) c9)
    refine lv_iconst (v := (-1)) hx hb dX12_taken_28 (by decide) ?_
    exact RP (v := (-1)) hC (trivial) rfl dX12_taken_29
set_option maxHeartbeats 4000000 in
set_option maxRecDepth 100000 in
theorem m_began (l : Launch) (G : GG) (h0 : Nat) (bo : Int32) (nw : Nat) (nk : Nat) (mhasKept : Int32) (nt : Nat) (mtaped : Int32) (nr : Nat) (mrowMany : Int32) (mroundOf : Int32) (mroundFrom : Int32) (mouts : Int32) (nm : Nat) (mfromHour : Int32) (mtoHour : Int32) (ns : Nat) (mfrom : Int32) (mto : Int32) (msort : Int32) (misFault : Int32) (mdeep : Int32) (mcoded : Int32) (mlines : Int32) (nl : Nat) (nc : Nat) (nF : Nat) (np : Nat) (ntr : Nat) (nb : Nat) (mbestCost : Int32) (nso : Nat) (nsi : Nat) (nit : Nat) (nsh : Nat) (nsf : Nat) (nss : Nat) (nrc : Nat) (jr : Nat) (mdealer : Int32) (mnumber : Int32) (mwhose : Int32) (msize : Int32) (misParted : Int32) (fnrc : Nat → Int32) (hjr : jr ≤ 30) : MV l G yX12_began cX12_began 2 1 0 0 [.ref h0, .int bo] [(h0, .inr (12, [.ref nw, .ref nk, .int mhasKept, .ref nt, .int mtaped, .ref nr, .int mrowMany, .int mroundOf, .int mroundFrom, .int mouts, .ref nm, .int mfromHour, .int mtoHour, .ref ns, .int mfrom, .int mto, .int msort, .int misFault, .int mdeep, .int mcoded, .int mlines, .ref nl, .ref nc, .ref nF, .ref np, .ref ntr, .ref nb, .int mbestCost, .ref nso, .ref nsi, .ref nit, .ref nsh, .ref nsf, .ref nss, .ref nrc, .int (nI jr), .int mdealer, .int mnumber, .int mwhose, .int msize, .int misParted])), (nrc, .inl (G.2.1, 30, .inl fnrc))] (fun u : Nat × (Nat → Int32) => u.1 ≤ 30) (fun u : Nat × (Nat → Int32) => [(h0, .inr (12, [.ref nw, .ref nk, .int mhasKept, .ref nt, .int mtaped, .ref nr, .int mrowMany, .int mroundOf, .int mroundFrom, .int mouts, .ref nm, .int mfromHour, .int mtoHour, .ref ns, .int mfrom, .int mto, .int msort, .int misFault, .int mdeep, .int mcoded, .int mlines, .ref nl, .ref nc, .ref nF, .ref np, .ref ntr, .ref nb, .int mbestCost, .ref nso, .ref nsi, .ref nit, .ref nsh, .ref nsf, .ref nss, .ref nrc, .int (nI u.1), .int mdealer, .int mnumber, .int mwhose, .int msize, .int misParted])), (nrc, .inl (G.2.1, 30, .inl u.2))]) := by
  refine MV.start (by decide +kernel) (Nat.le_of_ble_eq_true rfl) ?_
  intro p e s m below meth c A ls hC hK hP hD hS hA hl
  have hl : lv_has ls 2 [(0, .ref h0), (1, .int bo)] := hl
  obtain ⟨hx, hb, hr, hml, hB, hown, hlocks, hnm⟩ := id hC
  refine lv_aload_n hx hb dX12_began_0 rfl (lv_at hl 0 rfl) ?_
  refine gf_X12_351 hC rfl hK hP 0 rfl rfl dX12_began_1 ?_
  refine lv_bipush (v := 30) hx hb dX12_began_4 (by decide) ?_
  refine lv_icmp_ge (tgt := 29) hx hb dX12_began_6 (by decide) (fun c_6_5968 => ?_) (fun c_6_5968 => ?_)
  · exact RV hC hP hD hS [0, 1] (jr, fnrc) rfl rfl (by decide) (by omega) dX12_began_29
  · have hjr9 := nge_nat (R := 30) (k := jr) (by decide) (by omega) c_6_5968
    refine lv_aload_n hx hb dX12_began_9 rfl (lv_at hl 0 rfl) ?_
    refine gf_X12_81 hC rfl hK hP 0 rfl rfl dX12_began_10 ?_
    refine lv_aload_n hx hb dX12_began_13 rfl (lv_at hl 0 rfl) ?_
    refine gf_X12_351 hC rfl hK hP 0 rfl rfl dX12_began_14 ?_
    refine lv_iload_n hx hb dX12_began_17 rfl (lv_at hl 1 rfl) ?_
    refine ast hC hK hP hD hS 1 (ws' := [(h0, .inr (12, [.ref nw, .ref nk, .int mhasKept, .ref nt, .int mtaped, .ref nr, .int mrowMany, .int mroundOf, .int mroundFrom, .int mouts, .ref nm, .int mfromHour, .int mtoHour, .ref ns, .int mfrom, .int mto, .int msort, .int misFault, .int mdeep, .int mcoded, .int mlines, .ref nl, .ref nc, .ref nF, .ref np, .ref ntr, .ref nb, .int mbestCost, .ref nso, .ref nsi, .ref nit, .ref nsh, .ref nsf, .ref nss, .ref nrc, .int (nI jr), .int mdealer, .int mnumber, .int mwhose, .int msize, .int misParted])), (nrc, .inl (G.2.1, 30, .inl (upd fnrc jr bo)))]) rfl (vp_in_nI (by omega) (by omega)) (k := jr) (nI_clamp (by omega)) (rfl) dX12_began_18 (fun H locs hP hD hS => ?_)
    refine lv_aload_n hx hb dX12_began_19 rfl (lv_at hl 0 rfl) ?_
    refine lv_dup hx hb dX12_began_20 rfl ?_
    refine gf_X12_351 hC rfl hK hP 0 rfl rfl dX12_began_21 ?_
    refine lv_iconst (v := 1) hx hb dX12_began_24 (by decide) ?_
    refine lv_iadd hx hb dX12_began_25 ?_
    refine eqi (x1 := nI (jr + 1)) (nI_add jr 1) ?_
    refine pf_X12_351 hC rfl hK hP hD hS 0 (ws' := [(h0, .inr (12, [.ref nw, .ref nk, .int mhasKept, .ref nt, .int mtaped, .ref nr, .int mrowMany, .int mroundOf, .int mroundFrom, .int mouts, .ref nm, .int mfromHour, .int mtoHour, .ref ns, .int mfrom, .int mto, .int msort, .int misFault, .int mdeep, .int mcoded, .int mlines, .ref nl, .ref nc, .ref nF, .ref np, .ref ntr, .ref nb, .int mbestCost, .ref nso, .ref nsi, .ref nit, .ref nsh, .ref nsf, .ref nss, .ref nrc, .int (nI (jr + 1)), .int mdealer, .int mnumber, .int mwhose, .int msize, .int misParted])), (nrc, .inl (G.2.1, 30, .inl (upd fnrc jr bo)))]) rfl (Nat.le_of_ble_eq_true rfl) rfl rfl rfl dX12_began_26 (fun H locs hP hD hS => ?_)
    exact RV hC hP hD hS [0, 1] ((jr + 1), upd fnrc jr bo) rfl rfl (by decide) (by omega) dX12_began_29
set_option maxHeartbeats 4000000 in
set_option maxRecDepth 100000 in
theorem m_body00 (l : Launch) (G : GG) (h0 : Nat) (xx : Int32) (nw : Nat) (nk : Nat) (mhasKept : Int32) (nt : Nat) (mtaped : Int32) (nr : Nat) (mrowMany : Int32) (mroundOf : Int32) (mroundFrom : Int32) (mouts : Int32) (nm : Nat) (mfromHour : Int32) (mtoHour : Int32) (ns : Nat) (mfrom : Int32) (mto : Int32) (msort : Int32) (misFault : Int32) (mdeep : Int32) (mcoded : Int32) (mlines : Int32) (nl : Nat) (nc : Nat) (nF : Nat) (np : Nat) (ntr : Nat) (nb : Nat) (mbestCost : Int32) (nso : Nat) (nsi : Nat) (nit : Nat) (nsh : Nat) (nsf : Nat) (nss : Nat) (nrc : Nat) (jr : Nat) (jd : Nat) (mnumber : Int32) (mwhose : Int32) (msize : Int32) (misParted : Int32) (fnrc : Nat → Int32) (hjr : jr ≤ 30) (hjd : jd < 7) : MI l G yX12_body cX12_body 6 (some .int) 3 0 0 [.ref h0, .int 0, .int 0, .int xx] [(h0, .inr (12, [.ref nw, .ref nk, .int mhasKept, .ref nt, .int mtaped, .ref nr, .int mrowMany, .int mroundOf, .int mroundFrom, .int mouts, .ref nm, .int mfromHour, .int mtoHour, .ref ns, .int mfrom, .int mto, .int msort, .int misFault, .int mdeep, .int mcoded, .int mlines, .ref nl, .ref nc, .ref nF, .ref np, .ref ntr, .ref nb, .int mbestCost, .ref nso, .ref nsi, .ref nit, .ref nsh, .ref nsf, .ref nss, .ref nrc, .int (nI jr), .int (nI jd), .int mnumber, .int mwhose, .int msize, .int misParted])), (nrc, .inl (G.2.1, 30, .inl fnrc))] (fun (r : Int32) (u : Nat × Int32 × (Nat → Int32)) => (True) ∧ (u.1 ≤ 30)) (fun u : Nat × Int32 × (Nat → Int32) => [(h0, .inr (12, [.ref nw, .ref nk, .int mhasKept, .ref nt, .int mtaped, .ref nr, .int mrowMany, .int mroundOf, .int mroundFrom, .int mouts, .ref nm, .int mfromHour, .int mtoHour, .ref ns, .int mfrom, .int mto, .int msort, .int misFault, .int mdeep, .int mcoded, .int mlines, .ref nl, .ref nc, .ref nF, .ref np, .ref ntr, .ref nb, .int mbestCost, .ref nso, .ref nsi, .ref nit, .ref nsh, .ref nsf, .ref nss, .ref nrc, .int (nI u.1), .int (nI jd), .int mnumber, .int mwhose, .int msize, .int u.2.1])), (nrc, .inl (G.2.1, 30, .inl u.2.2))]) := by
  refine MI.start (by decide +kernel) (Nat.le_of_ble_eq_true rfl) ?_
  intro p e s m below meth c A ls hC hK hP hD hS hA hl
  have hl : lv_has ls 6 [(0, .ref h0), (1, .int 0), (2, .int 0), (3, .int xx)] := hl
  obtain ⟨hx, hb, hr, hml, hB, hown, hlocks, hnm⟩ := id hC
  refine lv_iconst (v := 4) hx hb dX12_body_0 (by decide) ?_
  refine lv_iload_n hx hb dX12_body_1 rfl (lv_at hl 1 rfl) ?_
  refine lv_imul hx hb dX12_body_2 ?_
  refine eqi (x1 := 0) (by decide) ?_
  refine lv_iload_n hx hb dX12_body_3 rfl (lv_at hl 2 rfl) ?_
  refine lv_iadd hx hb dX12_body_4 ?_
  refine eqi (x1 := 0) (by decide) ?_
  refine lv_tableIn (tgt := 112) hx hb dX12_body_5 (by decide) (by decide) rfl (by decide) ?_
  refine lv_aload_n hx hb dX12_body_112 rfl (lv_at hl 0 rfl) ?_
  refine lv_bipush (v := 10) hx hb dX12_body_113 (by decide) ?_
  refine vV (wr := []) hC hK hl hP hD hS hA (m_began l G h0 10 nw nk mhasKept nt mtaped nr mrowMany mroundOf mroundFrom mouts nm mfromHour mtoHour ns mfrom mto msort misFault mdeep mcoded mlines nl nc nF np ntr nb mbestCost nso nsi nit nsh nsf nss nrc jr (nI jd) mnumber mwhose msize misParted fnrc (by omega)) si_X12_366 [0, 1] [] rfl rfl (by decide) rfl (by decide) (by decide) rfl rfl rfl rfl rfl (Nat.le_of_ble_eq_true rfl) ⟨Nat.le_of_ble_eq_true rfl, Nat.le_of_ble_eq_true rfl⟩ ⟨Nat.le_of_ble_eq_true rfl, Nat.le_of_ble_eq_true rfl⟩ dX12_body_115 (fun u5970 H locs hr5969 hP hD hS => ?_)
  obtain ⟨jr15971, gtrc5972⟩ := u5970
  try dsimp only at hr5969
  have hP : va_P G.1 vwCl [(h0, .inr (12, [.ref nw, .ref nk, .int mhasKept, .ref nt, .int mtaped, .ref nr, .int mrowMany, .int mroundOf, .int mroundFrom, .int mouts, .ref nm, .int mfromHour, .int mtoHour, .ref ns, .int mfrom, .int mto, .int msort, .int misFault, .int mdeep, .int mcoded, .int mlines, .ref nl, .ref nc, .ref nF, .ref np, .ref ntr, .ref nb, .int mbestCost, .ref nso, .ref nsi, .ref nit, .ref nsh, .ref nsf, .ref nss, .ref nrc, .int (nI jr15971), .int (nI jd), .int mnumber, .int mwhose, .int msize, .int misParted])), (nrc, .inl (G.2.1, 30, .inl gtrc5972))] H := hP
  have hD : va_D A [(h0, .inr (12, [.ref nw, .ref nk, .int mhasKept, .ref nt, .int mtaped, .ref nr, .int mrowMany, .int mroundOf, .int mroundFrom, .int mouts, .ref nm, .int mfromHour, .int mtoHour, .ref ns, .int mfrom, .int mto, .int msort, .int misFault, .int mdeep, .int mcoded, .int mlines, .ref nl, .ref nc, .ref nF, .ref np, .ref ntr, .ref nb, .int mbestCost, .ref nso, .ref nsi, .ref nit, .ref nsh, .ref nsf, .ref nss, .ref nrc, .int (nI jr15971), .int (nI jd), .int mnumber, .int mwhose, .int msize, .int misParted])), (nrc, .inl (G.2.1, 30, .inl gtrc5972))] := hD
  have w5973 := hr5969
  refine lv_iload_n hx hb dX12_body_118 rfl (lv_at hl 3 rfl) ?_
  refine lv_aload_n hx hb dX12_body_119 rfl (lv_at hl 0 rfl) ?_
  refine gf_X12_369 hC rfl hK hP 0 rfl rfl dX12_body_120 ?_
  refine lv_iadd hx hb dX12_body_123 ?_
  exact RI (v := xx + msize) hC hP hD hS [0, 1] (jr15971, misParted, gtrc5972) rfl rfl (by decide) (⟨trivial, by omega⟩) rfl dX12_body_124
set_option maxHeartbeats 4000000 in
set_option maxRecDepth 100000 in
theorem m_from00 (l : Launch) (G : GG) (h0 : Nat) (xx : Int32) (nw : Nat) (nk : Nat) (mhasKept : Int32) (nt : Nat) (mtaped : Int32) (nr : Nat) (mrowMany : Int32) (mroundOf : Int32) (mroundFrom : Int32) (mouts : Int32) (nm : Nat) (mfromHour : Int32) (mtoHour : Int32) (ns : Nat) (mfrom : Int32) (mto : Int32) (msort : Int32) (misFault : Int32) (mdeep : Int32) (mcoded : Int32) (mlines : Int32) (nl : Nat) (nc : Nat) (nF : Nat) (np : Nat) (ntr : Nat) (nb : Nat) (mbestCost : Int32) (nso : Nat) (nsi : Nat) (nit : Nat) (nsh : Nat) (nsf : Nat) (nss : Nat) (nrc : Nat) (jr : Nat) (jd : Nat) (mnumber : Int32) (mwhose : Int32) (msize : Int32) (misParted : Int32) (fnrc : Nat → Int32) (hjr : jr ≤ 30) (hjd : jd < 7) : MI l G yX12_bodyFrom cX12_bodyFrom 5 (some .int) 4 0 0 [.ref h0, .int 0, .int 0, .int xx] [(h0, .inr (12, [.ref nw, .ref nk, .int mhasKept, .ref nt, .int mtaped, .ref nr, .int mrowMany, .int mroundOf, .int mroundFrom, .int mouts, .ref nm, .int mfromHour, .int mtoHour, .ref ns, .int mfrom, .int mto, .int msort, .int misFault, .int mdeep, .int mcoded, .int mlines, .ref nl, .ref nc, .ref nF, .ref np, .ref ntr, .ref nb, .int mbestCost, .ref nso, .ref nsi, .ref nit, .ref nsh, .ref nsf, .ref nss, .ref nrc, .int (nI jr), .int (nI jd), .int mnumber, .int mwhose, .int msize, .int misParted])), (nrc, .inl (G.2.1, 30, .inl fnrc))] (fun (r : Int32) (u : Nat × Int32 × (Nat → Int32)) => (True) ∧ (u.1 ≤ 30)) (fun u : Nat × Int32 × (Nat → Int32) => [(h0, .inr (12, [.ref nw, .ref nk, .int mhasKept, .ref nt, .int mtaped, .ref nr, .int mrowMany, .int mroundOf, .int mroundFrom, .int mouts, .ref nm, .int mfromHour, .int mtoHour, .ref ns, .int mfrom, .int mto, .int msort, .int misFault, .int mdeep, .int mcoded, .int mlines, .ref nl, .ref nc, .ref nF, .ref np, .ref ntr, .ref nb, .int mbestCost, .ref nso, .ref nsi, .ref nit, .ref nsh, .ref nsf, .ref nss, .ref nrc, .int (nI u.1), .int (nI jd), .int mnumber, .int mwhose, .int msize, .int u.2.1])), (nrc, .inl (G.2.1, 30, .inl u.2.2))]) := by
  refine MI.start (by decide +kernel) (Nat.le_of_ble_eq_true rfl) ?_
  intro p e s m below meth c A ls hC hK hP hD hS hA hl
  have hl : lv_has ls 5 [(0, .ref h0), (1, .int 0), (2, .int 0), (3, .int xx)] := hl
  obtain ⟨hx, hb, hr, hml, hB, hown, hlocks, hnm⟩ := id hC
  refine lv_iload_n hx hb dX12_bodyFrom_0 rfl (lv_at hl 1 rfl) ?_
  refine lv_istore (lv' := [(4, .int 0), (0, .ref h0), (1, .int 0), (2, .int 0), (3, .int xx)]) hx hb dX12_bodyFrom_1 hl (by decide) rfl (fun ls hl => ?_)
  refine lv_iload hx hb dX12_bodyFrom_3 (lv_at hl 0 rfl) ?_
  refine lv_iload_n hx hb dX12_bodyFrom_5 rfl (lv_at hl 3 rfl) ?_
  refine pS hC hK hl (m_hasOwn00 l G) si_X12_360 rfl rfl (Nat.le_of_ble_eq_true rfl) ⟨Nat.le_of_ble_eq_true rfl, Nat.le_of_ble_eq_true rfl⟩ ⟨by first | exact Nat.le_of_ble_eq_true rfl | exact Nat.zero_le _, by first | exact Nat.le_of_ble_eq_true rfl | exact Nat.zero_le _⟩ dX12_bodyFrom_6 (fun r5974 hr5974 => ?_)
  obtain rfl := hr5974
  refine lv_if_ne (tgt := 22) hx hb dX12_bodyFrom_9 (by decide) (fun _ => ?_) (fun c9 => absurd c9 (by decide))
  refine lv_aload_n hx hb dX12_bodyFrom_22 rfl (lv_at hl 1 rfl) ?_
  refine lv_iload hx hb dX12_bodyFrom_23 (lv_at hl 0 rfl) ?_
  refine lv_iload_n hx hb dX12_bodyFrom_25 rfl (lv_at hl 3 rfl) ?_
  refine lv_iload_n hx hb dX12_bodyFrom_26 rfl (lv_at hl 4 rfl) ?_
  refine iV (wr := []) hC hK hl hP hD hS hA (m_body00 l G h0 xx nw nk mhasKept nt mtaped nr mrowMany mroundOf mroundFrom mouts nm mfromHour mtoHour ns mfrom mto msort misFault mdeep mcoded mlines nl nc nF np ntr nb mbestCost nso nsi nit nsh nsf nss nrc jr jd mnumber mwhose msize misParted fnrc (by omega) (by omega)) si_X12_363 [0, 1] [] rfl rfl (by decide) rfl (by decide) (by decide) rfl rfl rfl rfl rfl (Nat.le_of_ble_eq_true rfl) ⟨Nat.le_of_ble_eq_true rfl, Nat.le_of_ble_eq_true rfl⟩ ⟨Nat.le_of_ble_eq_true rfl, Nat.le_of_ble_eq_true rfl⟩ dX12_bodyFrom_27 (fun r5976 u5977 H locs hr5976 hP hD hS => ?_)
  obtain ⟨jr15978, ip15979, gtrc5980⟩ := u5977
  try dsimp only at hr5976
  have hP : va_P G.1 vwCl [(h0, .inr (12, [.ref nw, .ref nk, .int mhasKept, .ref nt, .int mtaped, .ref nr, .int mrowMany, .int mroundOf, .int mroundFrom, .int mouts, .ref nm, .int mfromHour, .int mtoHour, .ref ns, .int mfrom, .int mto, .int msort, .int misFault, .int mdeep, .int mcoded, .int mlines, .ref nl, .ref nc, .ref nF, .ref np, .ref ntr, .ref nb, .int mbestCost, .ref nso, .ref nsi, .ref nit, .ref nsh, .ref nsf, .ref nss, .ref nrc, .int (nI jr15978), .int (nI jd), .int mnumber, .int mwhose, .int msize, .int ip15979])), (nrc, .inl (G.2.1, 30, .inl gtrc5980))] H := hP
  have hD : va_D A [(h0, .inr (12, [.ref nw, .ref nk, .int mhasKept, .ref nt, .int mtaped, .ref nr, .int mrowMany, .int mroundOf, .int mroundFrom, .int mouts, .ref nm, .int mfromHour, .int mtoHour, .ref ns, .int mfrom, .int mto, .int msort, .int misFault, .int mdeep, .int mcoded, .int mlines, .ref nl, .ref nc, .ref nF, .ref np, .ref ntr, .ref nb, .int mbestCost, .ref nso, .ref nsi, .ref nit, .ref nsh, .ref nsf, .ref nss, .ref nrc, .int (nI jr15978), .int (nI jd), .int mnumber, .int mwhose, .int msize, .int ip15979])), (nrc, .inl (G.2.1, 30, .inl gtrc5980))] := hD
  obtain ⟨hr5976, w5981⟩ := hr5976
  exact RI (v := r5976) hC hP hD hS [0, 1] (jr15978, ip15979, gtrc5980) rfl rfl (by decide) (⟨trivial, by omega⟩) rfl dX12_bodyFrom_30
set_option maxHeartbeats 4000000 in
set_option maxRecDepth 100000 in
theorem m_body40 (l : Launch) (G : GG) (h0 : Nat) (xx : Int32) (nw : Nat) (nk : Nat) (mhasKept : Int32) (nt : Nat) (mtaped : Int32) (nr : Nat) (mrowMany : Int32) (mroundOf : Int32) (mroundFrom : Int32) (mouts : Int32) (nm : Nat) (mfromHour : Int32) (mtoHour : Int32) (ns : Nat) (mfrom : Int32) (mto : Int32) (msort : Int32) (misFault : Int32) (mdeep : Int32) (mcoded : Int32) (mlines : Int32) (nl : Nat) (nc : Nat) (nF : Nat) (np : Nat) (ntr : Nat) (nb : Nat) (mbestCost : Int32) (nso : Nat) (nsi : Nat) (nit : Nat) (nsh : Nat) (nsf : Nat) (nss : Nat) (nrc : Nat) (jr : Nat) (jd : Nat) (mnumber : Int32) (mwhose : Int32) (msize : Int32) (misParted : Int32) (fnrc : Nat → Int32) (hjr : jr ≤ 30) (hjd : jd < 7) : MI l G yX12_body cX12_body 6 (some .int) 5 0 0 [.ref h0, .int 4, .int 0, .int xx] [(h0, .inr (12, [.ref nw, .ref nk, .int mhasKept, .ref nt, .int mtaped, .ref nr, .int mrowMany, .int mroundOf, .int mroundFrom, .int mouts, .ref nm, .int mfromHour, .int mtoHour, .ref ns, .int mfrom, .int mto, .int msort, .int misFault, .int mdeep, .int mcoded, .int mlines, .ref nl, .ref nc, .ref nF, .ref np, .ref ntr, .ref nb, .int mbestCost, .ref nso, .ref nsi, .ref nit, .ref nsh, .ref nsf, .ref nss, .ref nrc, .int (nI jr), .int (nI jd), .int mnumber, .int mwhose, .int msize, .int misParted])), (nrc, .inl (G.2.1, 30, .inl fnrc))] (fun (r : Int32) (u : Nat × Int32 × (Nat → Int32)) => (True) ∧ (u.1 ≤ 30)) (fun u : Nat × Int32 × (Nat → Int32) => [(h0, .inr (12, [.ref nw, .ref nk, .int mhasKept, .ref nt, .int mtaped, .ref nr, .int mrowMany, .int mroundOf, .int mroundFrom, .int mouts, .ref nm, .int mfromHour, .int mtoHour, .ref ns, .int mfrom, .int mto, .int msort, .int misFault, .int mdeep, .int mcoded, .int mlines, .ref nl, .ref nc, .ref nF, .ref np, .ref ntr, .ref nb, .int mbestCost, .ref nso, .ref nsi, .ref nit, .ref nsh, .ref nsf, .ref nss, .ref nrc, .int (nI u.1), .int (nI jd), .int mnumber, .int mwhose, .int msize, .int u.2.1])), (nrc, .inl (G.2.1, 30, .inl u.2.2))]) := by
  refine MI.start (by decide +kernel) (Nat.le_of_ble_eq_true rfl) ?_
  intro p e s m below meth c A ls hC hK hP hD hS hA hl
  have hl : lv_has ls 6 [(0, .ref h0), (1, .int 4), (2, .int 0), (3, .int xx)] := hl
  obtain ⟨hx, hb, hr, hml, hB, hown, hlocks, hnm⟩ := id hC
  refine lv_iconst (v := 4) hx hb dX12_body_0 (by decide) ?_
  refine lv_iload_n hx hb dX12_body_1 rfl (lv_at hl 1 rfl) ?_
  refine lv_imul hx hb dX12_body_2 ?_
  refine eqi (x1 := 16) (by decide) ?_
  refine lv_iload_n hx hb dX12_body_3 rfl (lv_at hl 2 rfl) ?_
  refine lv_iadd hx hb dX12_body_4 ?_
  refine eqi (x1 := 16) (by decide) ?_
  refine lv_tableIn (tgt := 274) hx hb dX12_body_5 (by decide) (by decide) rfl (by decide) ?_
  refine lv_aload_n hx hb dX12_body_274 rfl (lv_at hl 0 rfl) ?_
  refine lv_bipush (v := 50) hx hb dX12_body_275 (by decide) ?_
  refine vV (wr := []) hC hK hl hP hD hS hA (m_began l G h0 50 nw nk mhasKept nt mtaped nr mrowMany mroundOf mroundFrom mouts nm mfromHour mtoHour ns mfrom mto msort misFault mdeep mcoded mlines nl nc nF np ntr nb mbestCost nso nsi nit nsh nsf nss nrc jr (nI jd) mnumber mwhose msize misParted fnrc (by omega)) si_X12_366 [0, 1] [] rfl rfl (by decide) rfl (by decide) (by decide) rfl rfl rfl rfl rfl (Nat.le_of_ble_eq_true rfl) ⟨Nat.le_of_ble_eq_true rfl, Nat.le_of_ble_eq_true rfl⟩ ⟨Nat.le_of_ble_eq_true rfl, Nat.le_of_ble_eq_true rfl⟩ dX12_body_277 (fun u5983 H locs hr5982 hP hD hS => ?_)
  obtain ⟨jr15984, gtrc5985⟩ := u5983
  try dsimp only at hr5982
  have hP : va_P G.1 vwCl [(h0, .inr (12, [.ref nw, .ref nk, .int mhasKept, .ref nt, .int mtaped, .ref nr, .int mrowMany, .int mroundOf, .int mroundFrom, .int mouts, .ref nm, .int mfromHour, .int mtoHour, .ref ns, .int mfrom, .int mto, .int msort, .int misFault, .int mdeep, .int mcoded, .int mlines, .ref nl, .ref nc, .ref nF, .ref np, .ref ntr, .ref nb, .int mbestCost, .ref nso, .ref nsi, .ref nit, .ref nsh, .ref nsf, .ref nss, .ref nrc, .int (nI jr15984), .int (nI jd), .int mnumber, .int mwhose, .int msize, .int misParted])), (nrc, .inl (G.2.1, 30, .inl gtrc5985))] H := hP
  have hD : va_D A [(h0, .inr (12, [.ref nw, .ref nk, .int mhasKept, .ref nt, .int mtaped, .ref nr, .int mrowMany, .int mroundOf, .int mroundFrom, .int mouts, .ref nm, .int mfromHour, .int mtoHour, .ref ns, .int mfrom, .int mto, .int msort, .int misFault, .int mdeep, .int mcoded, .int mlines, .ref nl, .ref nc, .ref nF, .ref np, .ref ntr, .ref nb, .int mbestCost, .ref nso, .ref nsi, .ref nit, .ref nsh, .ref nsf, .ref nss, .ref nrc, .int (nI jr15984), .int (nI jd), .int mnumber, .int mwhose, .int msize, .int misParted])), (nrc, .inl (G.2.1, 30, .inl gtrc5985))] := hD
  have w5986 := hr5982
  refine lv_aload_n hx hb dX12_body_280 rfl (lv_at hl 0 rfl) ?_
  refine lv_iconst (v := 0) hx hb dX12_body_281 (by decide) ?_
  refine lv_iconst (v := 0) hx hb dX12_body_282 (by decide) ?_
  refine lv_iload_n hx hb dX12_body_283 rfl (lv_at hl 3 rfl) ?_
  refine iV (wr := []) hC hK hl hP hD hS hA (m_from00 l G h0 xx nw nk mhasKept nt mtaped nr mrowMany mroundOf mroundFrom mouts nm mfromHour mtoHour ns mfrom mto msort misFault mdeep mcoded mlines nl nc nF np ntr nb mbestCost nso nsi nit nsh nsf nss nrc jr15984 jd mnumber mwhose msize misParted gtrc5985 (by omega) (by omega)) si_X12_357 [0, 1] [] rfl rfl (by decide) rfl (by decide) (by decide) rfl rfl rfl rfl rfl (Nat.le_of_ble_eq_true rfl) ⟨Nat.le_of_ble_eq_true rfl, Nat.le_of_ble_eq_true rfl⟩ ⟨Nat.le_of_ble_eq_true rfl, Nat.le_of_ble_eq_true rfl⟩ dX12_body_284 (fun r5987 u5988 H locs hr5987 hP hD hS => ?_)
  obtain ⟨jr15989, ip15990, gtrc5991⟩ := u5988
  try dsimp only at hr5987
  have hP : va_P G.1 vwCl [(h0, .inr (12, [.ref nw, .ref nk, .int mhasKept, .ref nt, .int mtaped, .ref nr, .int mrowMany, .int mroundOf, .int mroundFrom, .int mouts, .ref nm, .int mfromHour, .int mtoHour, .ref ns, .int mfrom, .int mto, .int msort, .int misFault, .int mdeep, .int mcoded, .int mlines, .ref nl, .ref nc, .ref nF, .ref np, .ref ntr, .ref nb, .int mbestCost, .ref nso, .ref nsi, .ref nit, .ref nsh, .ref nsf, .ref nss, .ref nrc, .int (nI jr15989), .int (nI jd), .int mnumber, .int mwhose, .int msize, .int ip15990])), (nrc, .inl (G.2.1, 30, .inl gtrc5991))] H := hP
  have hD : va_D A [(h0, .inr (12, [.ref nw, .ref nk, .int mhasKept, .ref nt, .int mtaped, .ref nr, .int mrowMany, .int mroundOf, .int mroundFrom, .int mouts, .ref nm, .int mfromHour, .int mtoHour, .ref ns, .int mfrom, .int mto, .int msort, .int misFault, .int mdeep, .int mcoded, .int mlines, .ref nl, .ref nc, .ref nF, .ref np, .ref ntr, .ref nb, .int mbestCost, .ref nso, .ref nsi, .ref nit, .ref nsh, .ref nsf, .ref nss, .ref nrc, .int (nI jr15989), .int (nI jd), .int mnumber, .int mwhose, .int msize, .int ip15990])), (nrc, .inl (G.2.1, 30, .inl gtrc5991))] := hD
  obtain ⟨hr5987, w5992⟩ := hr5987
  refine lv_aload_n hx hb dX12_body_287 rfl (lv_at hl 0 rfl) ?_
  refine gf_X12_378 hC rfl hK hP 0 rfl rfl dX12_body_288 ?_
  refine lv_isub hx hb dX12_body_291 ?_
  exact RI (v := r5987 - mnumber) hC hP hD hS [0, 1] (jr15989, ip15990, gtrc5991) rfl rfl (by decide) (⟨trivial, by omega⟩) rfl dX12_body_292
set_option maxHeartbeats 4000000 in
set_option maxRecDepth 100000 in
theorem m_from40 (l : Launch) (G : GG) (h0 : Nat) (xx : Int32) (nw : Nat) (nk : Nat) (mhasKept : Int32) (nt : Nat) (mtaped : Int32) (nr : Nat) (mrowMany : Int32) (mroundOf : Int32) (mroundFrom : Int32) (mouts : Int32) (nm : Nat) (mfromHour : Int32) (mtoHour : Int32) (ns : Nat) (mfrom : Int32) (mto : Int32) (msort : Int32) (misFault : Int32) (mdeep : Int32) (mcoded : Int32) (mlines : Int32) (nl : Nat) (nc : Nat) (nF : Nat) (np : Nat) (ntr : Nat) (nb : Nat) (mbestCost : Int32) (nso : Nat) (nsi : Nat) (nit : Nat) (nsh : Nat) (nsf : Nat) (nss : Nat) (nrc : Nat) (jr : Nat) (jd : Nat) (mnumber : Int32) (mwhose : Int32) (msize : Int32) (misParted : Int32) (fnrc : Nat → Int32) (hjr : jr ≤ 30) (hjd : jd < 7) : MI l G yX12_bodyFrom cX12_bodyFrom 5 (some .int) 6 0 0 [.ref h0, .int 4, .int 0, .int xx] [(h0, .inr (12, [.ref nw, .ref nk, .int mhasKept, .ref nt, .int mtaped, .ref nr, .int mrowMany, .int mroundOf, .int mroundFrom, .int mouts, .ref nm, .int mfromHour, .int mtoHour, .ref ns, .int mfrom, .int mto, .int msort, .int misFault, .int mdeep, .int mcoded, .int mlines, .ref nl, .ref nc, .ref nF, .ref np, .ref ntr, .ref nb, .int mbestCost, .ref nso, .ref nsi, .ref nit, .ref nsh, .ref nsf, .ref nss, .ref nrc, .int (nI jr), .int (nI jd), .int mnumber, .int mwhose, .int msize, .int misParted])), (nrc, .inl (G.2.1, 30, .inl fnrc))] (fun (r : Int32) (u : Nat × Int32 × (Nat → Int32)) => (True) ∧ (u.1 ≤ 30)) (fun u : Nat × Int32 × (Nat → Int32) => [(h0, .inr (12, [.ref nw, .ref nk, .int mhasKept, .ref nt, .int mtaped, .ref nr, .int mrowMany, .int mroundOf, .int mroundFrom, .int mouts, .ref nm, .int mfromHour, .int mtoHour, .ref ns, .int mfrom, .int mto, .int msort, .int misFault, .int mdeep, .int mcoded, .int mlines, .ref nl, .ref nc, .ref nF, .ref np, .ref ntr, .ref nb, .int mbestCost, .ref nso, .ref nsi, .ref nit, .ref nsh, .ref nsf, .ref nss, .ref nrc, .int (nI u.1), .int (nI jd), .int mnumber, .int mwhose, .int msize, .int u.2.1])), (nrc, .inl (G.2.1, 30, .inl u.2.2))]) := by
  refine MI.start (by decide +kernel) (Nat.le_of_ble_eq_true rfl) ?_
  intro p e s m below meth c A ls hC hK hP hD hS hA hl
  have hl : lv_has ls 5 [(0, .ref h0), (1, .int 4), (2, .int 0), (3, .int xx)] := hl
  obtain ⟨hx, hb, hr, hml, hB, hown, hlocks, hnm⟩ := id hC
  refine lv_iload_n hx hb dX12_bodyFrom_0 rfl (lv_at hl 1 rfl) ?_
  refine lv_istore (lv' := [(4, .int 4), (0, .ref h0), (1, .int 4), (2, .int 0), (3, .int xx)]) hx hb dX12_bodyFrom_1 hl (by decide) rfl (fun ls hl => ?_)
  refine lv_iload hx hb dX12_bodyFrom_3 (lv_at hl 0 rfl) ?_
  refine lv_iload_n hx hb dX12_bodyFrom_5 rfl (lv_at hl 3 rfl) ?_
  refine pS hC hK hl (m_hasOwn40 l G) si_X12_360 rfl rfl (Nat.le_of_ble_eq_true rfl) ⟨Nat.le_of_ble_eq_true rfl, Nat.le_of_ble_eq_true rfl⟩ ⟨by first | exact Nat.le_of_ble_eq_true rfl | exact Nat.zero_le _, by first | exact Nat.le_of_ble_eq_true rfl | exact Nat.zero_le _⟩ dX12_bodyFrom_6 (fun r5993 hr5993 => ?_)
  obtain rfl := hr5993
  refine lv_if_ne (tgt := 22) hx hb dX12_bodyFrom_9 (by decide) (fun _ => ?_) (fun c9 => absurd c9 (by decide))
  refine lv_aload_n hx hb dX12_bodyFrom_22 rfl (lv_at hl 1 rfl) ?_
  refine lv_iload hx hb dX12_bodyFrom_23 (lv_at hl 0 rfl) ?_
  refine lv_iload_n hx hb dX12_bodyFrom_25 rfl (lv_at hl 3 rfl) ?_
  refine lv_iload_n hx hb dX12_bodyFrom_26 rfl (lv_at hl 4 rfl) ?_
  refine iV (wr := []) hC hK hl hP hD hS hA (m_body40 l G h0 xx nw nk mhasKept nt mtaped nr mrowMany mroundOf mroundFrom mouts nm mfromHour mtoHour ns mfrom mto msort misFault mdeep mcoded mlines nl nc nF np ntr nb mbestCost nso nsi nit nsh nsf nss nrc jr jd mnumber mwhose msize misParted fnrc (by omega) (by omega)) si_X12_363 [0, 1] [] rfl rfl (by decide) rfl (by decide) (by decide) rfl rfl rfl rfl rfl (Nat.le_of_ble_eq_true rfl) ⟨Nat.le_of_ble_eq_true rfl, Nat.le_of_ble_eq_true rfl⟩ ⟨Nat.le_of_ble_eq_true rfl, Nat.le_of_ble_eq_true rfl⟩ dX12_bodyFrom_27 (fun r5995 u5996 H locs hr5995 hP hD hS => ?_)
  obtain ⟨jr15997, ip15998, gtrc5999⟩ := u5996
  try dsimp only at hr5995
  have hP : va_P G.1 vwCl [(h0, .inr (12, [.ref nw, .ref nk, .int mhasKept, .ref nt, .int mtaped, .ref nr, .int mrowMany, .int mroundOf, .int mroundFrom, .int mouts, .ref nm, .int mfromHour, .int mtoHour, .ref ns, .int mfrom, .int mto, .int msort, .int misFault, .int mdeep, .int mcoded, .int mlines, .ref nl, .ref nc, .ref nF, .ref np, .ref ntr, .ref nb, .int mbestCost, .ref nso, .ref nsi, .ref nit, .ref nsh, .ref nsf, .ref nss, .ref nrc, .int (nI jr15997), .int (nI jd), .int mnumber, .int mwhose, .int msize, .int ip15998])), (nrc, .inl (G.2.1, 30, .inl gtrc5999))] H := hP
  have hD : va_D A [(h0, .inr (12, [.ref nw, .ref nk, .int mhasKept, .ref nt, .int mtaped, .ref nr, .int mrowMany, .int mroundOf, .int mroundFrom, .int mouts, .ref nm, .int mfromHour, .int mtoHour, .ref ns, .int mfrom, .int mto, .int msort, .int misFault, .int mdeep, .int mcoded, .int mlines, .ref nl, .ref nc, .ref nF, .ref np, .ref ntr, .ref nb, .int mbestCost, .ref nso, .ref nsi, .ref nit, .ref nsh, .ref nsf, .ref nss, .ref nrc, .int (nI jr15997), .int (nI jd), .int mnumber, .int mwhose, .int msize, .int ip15998])), (nrc, .inl (G.2.1, 30, .inl gtrc5999))] := hD
  obtain ⟨hr5995, w6000⟩ := hr5995
  exact RI (v := r5995) hC hP hD hS [0, 1] (jr15997, ip15998, gtrc5999) rfl rfl (by decide) (⟨trivial, by omega⟩) rfl dX12_bodyFrom_30
set_option maxHeartbeats 4000000 in
set_option maxRecDepth 100000 in
theorem m_body50 (l : Launch) (G : GG) (h0 : Nat) (xx : Int32) (nw : Nat) (nk : Nat) (mhasKept : Int32) (nt : Nat) (mtaped : Int32) (nr : Nat) (mrowMany : Int32) (mroundOf : Int32) (mroundFrom : Int32) (mouts : Int32) (nm : Nat) (mfromHour : Int32) (mtoHour : Int32) (ns : Nat) (mfrom : Int32) (mto : Int32) (msort : Int32) (misFault : Int32) (mdeep : Int32) (mcoded : Int32) (mlines : Int32) (nl : Nat) (nc : Nat) (nF : Nat) (np : Nat) (ntr : Nat) (nb : Nat) (mbestCost : Int32) (nso : Nat) (nsi : Nat) (nit : Nat) (nsh : Nat) (nsf : Nat) (nss : Nat) (nrc : Nat) (jr : Nat) (jd : Nat) (mnumber : Int32) (mwhose : Int32) (msize : Int32) (misParted : Int32) (fnrc : Nat → Int32) (hjr : jr ≤ 30) (hjd : jd < 7) : MI l G yX12_body cX12_body 6 (some .int) 7 0 0 [.ref h0, .int 5, .int 0, .int xx] [(h0, .inr (12, [.ref nw, .ref nk, .int mhasKept, .ref nt, .int mtaped, .ref nr, .int mrowMany, .int mroundOf, .int mroundFrom, .int mouts, .ref nm, .int mfromHour, .int mtoHour, .ref ns, .int mfrom, .int mto, .int msort, .int misFault, .int mdeep, .int mcoded, .int mlines, .ref nl, .ref nc, .ref nF, .ref np, .ref ntr, .ref nb, .int mbestCost, .ref nso, .ref nsi, .ref nit, .ref nsh, .ref nsf, .ref nss, .ref nrc, .int (nI jr), .int (nI jd), .int mnumber, .int mwhose, .int msize, .int misParted])), (nrc, .inl (G.2.1, 30, .inl fnrc))] (fun (r : Int32) (u : Nat × Int32 × (Nat → Int32)) => (True) ∧ (u.1 ≤ 30)) (fun u : Nat × Int32 × (Nat → Int32) => [(h0, .inr (12, [.ref nw, .ref nk, .int mhasKept, .ref nt, .int mtaped, .ref nr, .int mrowMany, .int mroundOf, .int mroundFrom, .int mouts, .ref nm, .int mfromHour, .int mtoHour, .ref ns, .int mfrom, .int mto, .int msort, .int misFault, .int mdeep, .int mcoded, .int mlines, .ref nl, .ref nc, .ref nF, .ref np, .ref ntr, .ref nb, .int mbestCost, .ref nso, .ref nsi, .ref nit, .ref nsh, .ref nsf, .ref nss, .ref nrc, .int (nI u.1), .int (nI jd), .int mnumber, .int mwhose, .int msize, .int u.2.1])), (nrc, .inl (G.2.1, 30, .inl u.2.2))]) := by
  refine MI.start (by decide +kernel) (Nat.le_of_ble_eq_true rfl) ?_
  intro p e s m below meth c A ls hC hK hP hD hS hA hl
  have hl : lv_has ls 6 [(0, .ref h0), (1, .int 5), (2, .int 0), (3, .int xx)] := hl
  obtain ⟨hx, hb, hr, hml, hB, hown, hlocks, hnm⟩ := id hC
  refine lv_iconst (v := 4) hx hb dX12_body_0 (by decide) ?_
  refine lv_iload_n hx hb dX12_body_1 rfl (lv_at hl 1 rfl) ?_
  refine lv_imul hx hb dX12_body_2 ?_
  refine eqi (x1 := 20) (by decide) ?_
  refine lv_iload_n hx hb dX12_body_3 rfl (lv_at hl 2 rfl) ?_
  refine lv_iadd hx hb dX12_body_4 ?_
  refine eqi (x1 := 20) (by decide) ?_
  refine lv_tableIn (tgt := 334) hx hb dX12_body_5 (by decide) (by decide) rfl (by decide) ?_
  refine lv_aload_n hx hb dX12_body_334 rfl (lv_at hl 0 rfl) ?_
  refine lv_bipush (v := 61) hx hb dX12_body_335 (by decide) ?_
  refine vV (wr := []) hC hK hl hP hD hS hA (m_began l G h0 61 nw nk mhasKept nt mtaped nr mrowMany mroundOf mroundFrom mouts nm mfromHour mtoHour ns mfrom mto msort misFault mdeep mcoded mlines nl nc nF np ntr nb mbestCost nso nsi nit nsh nsf nss nrc jr (nI jd) mnumber mwhose msize misParted fnrc (by omega)) si_X12_366 [0, 1] [] rfl rfl (by decide) rfl (by decide) (by decide) rfl rfl rfl rfl rfl (Nat.le_of_ble_eq_true rfl) ⟨Nat.le_of_ble_eq_true rfl, Nat.le_of_ble_eq_true rfl⟩ ⟨Nat.le_of_ble_eq_true rfl, Nat.le_of_ble_eq_true rfl⟩ dX12_body_337 (fun u6002 H locs hr6001 hP hD hS => ?_)
  obtain ⟨jr16003, gtrc6004⟩ := u6002
  try dsimp only at hr6001
  have hP : va_P G.1 vwCl [(h0, .inr (12, [.ref nw, .ref nk, .int mhasKept, .ref nt, .int mtaped, .ref nr, .int mrowMany, .int mroundOf, .int mroundFrom, .int mouts, .ref nm, .int mfromHour, .int mtoHour, .ref ns, .int mfrom, .int mto, .int msort, .int misFault, .int mdeep, .int mcoded, .int mlines, .ref nl, .ref nc, .ref nF, .ref np, .ref ntr, .ref nb, .int mbestCost, .ref nso, .ref nsi, .ref nit, .ref nsh, .ref nsf, .ref nss, .ref nrc, .int (nI jr16003), .int (nI jd), .int mnumber, .int mwhose, .int msize, .int misParted])), (nrc, .inl (G.2.1, 30, .inl gtrc6004))] H := hP
  have hD : va_D A [(h0, .inr (12, [.ref nw, .ref nk, .int mhasKept, .ref nt, .int mtaped, .ref nr, .int mrowMany, .int mroundOf, .int mroundFrom, .int mouts, .ref nm, .int mfromHour, .int mtoHour, .ref ns, .int mfrom, .int mto, .int msort, .int misFault, .int mdeep, .int mcoded, .int mlines, .ref nl, .ref nc, .ref nF, .ref np, .ref ntr, .ref nb, .int mbestCost, .ref nso, .ref nsi, .ref nit, .ref nsh, .ref nsf, .ref nss, .ref nrc, .int (nI jr16003), .int (nI jd), .int mnumber, .int mwhose, .int msize, .int misParted])), (nrc, .inl (G.2.1, 30, .inl gtrc6004))] := hD
  have w6005 := hr6001
  refine lv_aload_n hx hb dX12_body_340 rfl (lv_at hl 0 rfl) ?_
  refine lv_iconst (v := 4) hx hb dX12_body_341 (by decide) ?_
  refine lv_iconst (v := 0) hx hb dX12_body_342 (by decide) ?_
  refine lv_iload_n hx hb dX12_body_343 rfl (lv_at hl 3 rfl) ?_
  refine lv_aload_n hx hb dX12_body_344 rfl (lv_at hl 0 rfl) ?_
  refine gf_X12_375 hC rfl hK hP 0 rfl rfl dX12_body_345 ?_
  refine lv_iadd hx hb dX12_body_348 ?_
  refine iV (wr := []) hC hK hl hP hD hS hA (m_from40 l G h0 (xx + mwhose) nw nk mhasKept nt mtaped nr mrowMany mroundOf mroundFrom mouts nm mfromHour mtoHour ns mfrom mto msort misFault mdeep mcoded mlines nl nc nF np ntr nb mbestCost nso nsi nit nsh nsf nss nrc jr16003 jd mnumber mwhose msize misParted gtrc6004 (by omega) (by omega)) si_X12_357 [0, 1] [] rfl rfl (by decide) rfl (by decide) (by decide) rfl rfl rfl rfl rfl (Nat.le_of_ble_eq_true rfl) ⟨Nat.le_of_ble_eq_true rfl, Nat.le_of_ble_eq_true rfl⟩ ⟨Nat.le_of_ble_eq_true rfl, Nat.le_of_ble_eq_true rfl⟩ dX12_body_349 (fun r6006 u6007 H locs hr6006 hP hD hS => ?_)
  obtain ⟨jr16008, ip16009, gtrc6010⟩ := u6007
  try dsimp only at hr6006
  have hP : va_P G.1 vwCl [(h0, .inr (12, [.ref nw, .ref nk, .int mhasKept, .ref nt, .int mtaped, .ref nr, .int mrowMany, .int mroundOf, .int mroundFrom, .int mouts, .ref nm, .int mfromHour, .int mtoHour, .ref ns, .int mfrom, .int mto, .int msort, .int misFault, .int mdeep, .int mcoded, .int mlines, .ref nl, .ref nc, .ref nF, .ref np, .ref ntr, .ref nb, .int mbestCost, .ref nso, .ref nsi, .ref nit, .ref nsh, .ref nsf, .ref nss, .ref nrc, .int (nI jr16008), .int (nI jd), .int mnumber, .int mwhose, .int msize, .int ip16009])), (nrc, .inl (G.2.1, 30, .inl gtrc6010))] H := hP
  have hD : va_D A [(h0, .inr (12, [.ref nw, .ref nk, .int mhasKept, .ref nt, .int mtaped, .ref nr, .int mrowMany, .int mroundOf, .int mroundFrom, .int mouts, .ref nm, .int mfromHour, .int mtoHour, .ref ns, .int mfrom, .int mto, .int msort, .int misFault, .int mdeep, .int mcoded, .int mlines, .ref nl, .ref nc, .ref nF, .ref np, .ref ntr, .ref nb, .int mbestCost, .ref nso, .ref nsi, .ref nit, .ref nsh, .ref nsf, .ref nss, .ref nrc, .int (nI jr16008), .int (nI jd), .int mnumber, .int mwhose, .int msize, .int ip16009])), (nrc, .inl (G.2.1, 30, .inl gtrc6010))] := hD
  obtain ⟨hr6006, w6011⟩ := hr6006
  exact RI (v := r6006) hC hP hD hS [0, 1] (jr16008, ip16009, gtrc6010) rfl rfl (by decide) (⟨trivial, by omega⟩) rfl dX12_body_352
set_option maxHeartbeats 4000000 in
set_option maxRecDepth 100000 in
theorem m_from50 (l : Launch) (G : GG) (h0 : Nat) (xx : Int32) (nw : Nat) (nk : Nat) (mhasKept : Int32) (nt : Nat) (mtaped : Int32) (nr : Nat) (mrowMany : Int32) (mroundOf : Int32) (mroundFrom : Int32) (mouts : Int32) (nm : Nat) (mfromHour : Int32) (mtoHour : Int32) (ns : Nat) (mfrom : Int32) (mto : Int32) (msort : Int32) (misFault : Int32) (mdeep : Int32) (mcoded : Int32) (mlines : Int32) (nl : Nat) (nc : Nat) (nF : Nat) (np : Nat) (ntr : Nat) (nb : Nat) (mbestCost : Int32) (nso : Nat) (nsi : Nat) (nit : Nat) (nsh : Nat) (nsf : Nat) (nss : Nat) (nrc : Nat) (jr : Nat) (jd : Nat) (mnumber : Int32) (mwhose : Int32) (msize : Int32) (misParted : Int32) (fnrc : Nat → Int32) (hjr : jr ≤ 30) (hjd : jd < 7) : MI l G yX12_bodyFrom cX12_bodyFrom 5 (some .int) 8 0 0 [.ref h0, .int 5, .int 0, .int xx] [(h0, .inr (12, [.ref nw, .ref nk, .int mhasKept, .ref nt, .int mtaped, .ref nr, .int mrowMany, .int mroundOf, .int mroundFrom, .int mouts, .ref nm, .int mfromHour, .int mtoHour, .ref ns, .int mfrom, .int mto, .int msort, .int misFault, .int mdeep, .int mcoded, .int mlines, .ref nl, .ref nc, .ref nF, .ref np, .ref ntr, .ref nb, .int mbestCost, .ref nso, .ref nsi, .ref nit, .ref nsh, .ref nsf, .ref nss, .ref nrc, .int (nI jr), .int (nI jd), .int mnumber, .int mwhose, .int msize, .int misParted])), (nrc, .inl (G.2.1, 30, .inl fnrc))] (fun (r : Int32) (u : Nat × Int32 × (Nat → Int32)) => (True) ∧ (u.1 ≤ 30)) (fun u : Nat × Int32 × (Nat → Int32) => [(h0, .inr (12, [.ref nw, .ref nk, .int mhasKept, .ref nt, .int mtaped, .ref nr, .int mrowMany, .int mroundOf, .int mroundFrom, .int mouts, .ref nm, .int mfromHour, .int mtoHour, .ref ns, .int mfrom, .int mto, .int msort, .int misFault, .int mdeep, .int mcoded, .int mlines, .ref nl, .ref nc, .ref nF, .ref np, .ref ntr, .ref nb, .int mbestCost, .ref nso, .ref nsi, .ref nit, .ref nsh, .ref nsf, .ref nss, .ref nrc, .int (nI u.1), .int (nI jd), .int mnumber, .int mwhose, .int msize, .int u.2.1])), (nrc, .inl (G.2.1, 30, .inl u.2.2))]) := by
  refine MI.start (by decide +kernel) (Nat.le_of_ble_eq_true rfl) ?_
  intro p e s m below meth c A ls hC hK hP hD hS hA hl
  have hl : lv_has ls 5 [(0, .ref h0), (1, .int 5), (2, .int 0), (3, .int xx)] := hl
  obtain ⟨hx, hb, hr, hml, hB, hown, hlocks, hnm⟩ := id hC
  refine lv_iload_n hx hb dX12_bodyFrom_0 rfl (lv_at hl 1 rfl) ?_
  refine lv_istore (lv' := [(4, .int 5), (0, .ref h0), (1, .int 5), (2, .int 0), (3, .int xx)]) hx hb dX12_bodyFrom_1 hl (by decide) rfl (fun ls hl => ?_)
  refine lv_iload hx hb dX12_bodyFrom_3 (lv_at hl 0 rfl) ?_
  refine lv_iload_n hx hb dX12_bodyFrom_5 rfl (lv_at hl 3 rfl) ?_
  refine pS hC hK hl (m_hasOwn50 l G) si_X12_360 rfl rfl (Nat.le_of_ble_eq_true rfl) ⟨Nat.le_of_ble_eq_true rfl, Nat.le_of_ble_eq_true rfl⟩ ⟨by first | exact Nat.le_of_ble_eq_true rfl | exact Nat.zero_le _, by first | exact Nat.le_of_ble_eq_true rfl | exact Nat.zero_le _⟩ dX12_bodyFrom_6 (fun r6012 hr6012 => ?_)
  obtain rfl := hr6012
  refine lv_if_ne (tgt := 22) hx hb dX12_bodyFrom_9 (by decide) (fun _ => ?_) (fun c9 => absurd c9 (by decide))
  refine lv_aload_n hx hb dX12_bodyFrom_22 rfl (lv_at hl 1 rfl) ?_
  refine lv_iload hx hb dX12_bodyFrom_23 (lv_at hl 0 rfl) ?_
  refine lv_iload_n hx hb dX12_bodyFrom_25 rfl (lv_at hl 3 rfl) ?_
  refine lv_iload_n hx hb dX12_bodyFrom_26 rfl (lv_at hl 4 rfl) ?_
  refine iV (wr := []) hC hK hl hP hD hS hA (m_body50 l G h0 xx nw nk mhasKept nt mtaped nr mrowMany mroundOf mroundFrom mouts nm mfromHour mtoHour ns mfrom mto msort misFault mdeep mcoded mlines nl nc nF np ntr nb mbestCost nso nsi nit nsh nsf nss nrc jr jd mnumber mwhose msize misParted fnrc (by omega) (by omega)) si_X12_363 [0, 1] [] rfl rfl (by decide) rfl (by decide) (by decide) rfl rfl rfl rfl rfl (Nat.le_of_ble_eq_true rfl) ⟨Nat.le_of_ble_eq_true rfl, Nat.le_of_ble_eq_true rfl⟩ ⟨Nat.le_of_ble_eq_true rfl, Nat.le_of_ble_eq_true rfl⟩ dX12_bodyFrom_27 (fun r6014 u6015 H locs hr6014 hP hD hS => ?_)
  obtain ⟨jr16016, ip16017, gtrc6018⟩ := u6015
  try dsimp only at hr6014
  have hP : va_P G.1 vwCl [(h0, .inr (12, [.ref nw, .ref nk, .int mhasKept, .ref nt, .int mtaped, .ref nr, .int mrowMany, .int mroundOf, .int mroundFrom, .int mouts, .ref nm, .int mfromHour, .int mtoHour, .ref ns, .int mfrom, .int mto, .int msort, .int misFault, .int mdeep, .int mcoded, .int mlines, .ref nl, .ref nc, .ref nF, .ref np, .ref ntr, .ref nb, .int mbestCost, .ref nso, .ref nsi, .ref nit, .ref nsh, .ref nsf, .ref nss, .ref nrc, .int (nI jr16016), .int (nI jd), .int mnumber, .int mwhose, .int msize, .int ip16017])), (nrc, .inl (G.2.1, 30, .inl gtrc6018))] H := hP
  have hD : va_D A [(h0, .inr (12, [.ref nw, .ref nk, .int mhasKept, .ref nt, .int mtaped, .ref nr, .int mrowMany, .int mroundOf, .int mroundFrom, .int mouts, .ref nm, .int mfromHour, .int mtoHour, .ref ns, .int mfrom, .int mto, .int msort, .int misFault, .int mdeep, .int mcoded, .int mlines, .ref nl, .ref nc, .ref nF, .ref np, .ref ntr, .ref nb, .int mbestCost, .ref nso, .ref nsi, .ref nit, .ref nsh, .ref nsf, .ref nss, .ref nrc, .int (nI jr16016), .int (nI jd), .int mnumber, .int mwhose, .int msize, .int ip16017])), (nrc, .inl (G.2.1, 30, .inl gtrc6018))] := hD
  obtain ⟨hr6014, w6019⟩ := hr6014
  exact RI (v := r6014) hC hP hD hS [0, 1] (jr16016, ip16017, gtrc6018) rfl rfl (by decide) (⟨trivial, by omega⟩) rfl dX12_bodyFrom_30
set_option maxHeartbeats 4000000 in
set_option maxRecDepth 100000 in
theorem m_from10 (l : Launch) (G : GG) (h0 : Nat) (xx : Int32) (nw : Nat) (nk : Nat) (mhasKept : Int32) (nt : Nat) (mtaped : Int32) (nr : Nat) (mrowMany : Int32) (mroundOf : Int32) (mroundFrom : Int32) (mouts : Int32) (nm : Nat) (mfromHour : Int32) (mtoHour : Int32) (ns : Nat) (mfrom : Int32) (mto : Int32) (msort : Int32) (misFault : Int32) (mdeep : Int32) (mcoded : Int32) (mlines : Int32) (nl : Nat) (nc : Nat) (nF : Nat) (np : Nat) (ntr : Nat) (nb : Nat) (mbestCost : Int32) (nso : Nat) (nsi : Nat) (nit : Nat) (nsh : Nat) (nsf : Nat) (nss : Nat) (nrc : Nat) (jr : Nat) (jd : Nat) (mnumber : Int32) (mwhose : Int32) (msize : Int32) (misParted : Int32) (fnrc : Nat → Int32) (hjr : jr ≤ 30) (hjd : jd < 7) : MI l G yX12_bodyFrom cX12_bodyFrom 5 (some .int) 12 0 0 [.ref h0, .int 1, .int 0, .int xx] [(h0, .inr (12, [.ref nw, .ref nk, .int mhasKept, .ref nt, .int mtaped, .ref nr, .int mrowMany, .int mroundOf, .int mroundFrom, .int mouts, .ref nm, .int mfromHour, .int mtoHour, .ref ns, .int mfrom, .int mto, .int msort, .int misFault, .int mdeep, .int mcoded, .int mlines, .ref nl, .ref nc, .ref nF, .ref np, .ref ntr, .ref nb, .int mbestCost, .ref nso, .ref nsi, .ref nit, .ref nsh, .ref nsf, .ref nss, .ref nrc, .int (nI jr), .int (nI jd), .int mnumber, .int mwhose, .int msize, .int misParted])), (nrc, .inl (G.2.1, 30, .inl fnrc))] (fun (r : Int32) (u : Nat × Int32 × (Nat → Int32)) => (True) ∧ (u.1 ≤ 30)) (fun u : Nat × Int32 × (Nat → Int32) => [(h0, .inr (12, [.ref nw, .ref nk, .int mhasKept, .ref nt, .int mtaped, .ref nr, .int mrowMany, .int mroundOf, .int mroundFrom, .int mouts, .ref nm, .int mfromHour, .int mtoHour, .ref ns, .int mfrom, .int mto, .int msort, .int misFault, .int mdeep, .int mcoded, .int mlines, .ref nl, .ref nc, .ref nF, .ref np, .ref ntr, .ref nb, .int mbestCost, .ref nso, .ref nsi, .ref nit, .ref nsh, .ref nsf, .ref nss, .ref nrc, .int (nI u.1), .int (nI jd), .int mnumber, .int mwhose, .int msize, .int u.2.1])), (nrc, .inl (G.2.1, 30, .inl u.2.2))]) := by
  refine MI.start (by decide +kernel) (Nat.le_of_ble_eq_true rfl) ?_
  intro p e s m below meth c A ls hC hK hP hD hS hA hl
  have hl : lv_has ls 5 [(0, .ref h0), (1, .int 1), (2, .int 0), (3, .int xx)] := hl
  obtain ⟨hx, hb, hr, hml, hB, hown, hlocks, hnm⟩ := id hC
  refine lv_iload_n hx hb dX12_bodyFrom_0 rfl (lv_at hl 1 rfl) ?_
  refine lv_istore (lv' := [(4, .int 1), (0, .ref h0), (1, .int 1), (2, .int 0), (3, .int xx)]) hx hb dX12_bodyFrom_1 hl (by decide) rfl (fun ls hl => ?_)
  refine lv_iload hx hb dX12_bodyFrom_3 (lv_at hl 0 rfl) ?_
  refine lv_iload_n hx hb dX12_bodyFrom_5 rfl (lv_at hl 3 rfl) ?_
  refine pS hC hK hl (m_hasOwn10 l G) si_X12_360 rfl rfl (Nat.le_of_ble_eq_true rfl) ⟨Nat.le_of_ble_eq_true rfl, Nat.le_of_ble_eq_true rfl⟩ ⟨by first | exact Nat.le_of_ble_eq_true rfl | exact Nat.zero_le _, by first | exact Nat.le_of_ble_eq_true rfl | exact Nat.zero_le _⟩ dX12_bodyFrom_6 (fun r6020 hr6020 => ?_)
  obtain rfl := hr6020
  refine lv_if_ne (tgt := 22) hx hb dX12_bodyFrom_9 (by decide) (fun c9 => absurd (by decide) c9) (fun _ => ?_)
  refine lv_iload hx hb dX12_bodyFrom_12 (lv_at hl 0 rfl) ?_
  refine pS hC hK hl (m_above1 l G) si_X12_348 rfl rfl (Nat.le_of_ble_eq_true rfl) ⟨Nat.le_of_ble_eq_true rfl, Nat.le_of_ble_eq_true rfl⟩ ⟨by first | exact Nat.le_of_ble_eq_true rfl | exact Nat.zero_le _, by first | exact Nat.le_of_ble_eq_true rfl | exact Nat.zero_le _⟩ dX12_bodyFrom_14 (fun r6022 hr6022 => ?_)
  obtain rfl := hr6022
  refine lv_istore (lv' := [(4, .int 0), (0, .ref h0), (1, .int 1), (2, .int 0), (3, .int xx)]) hx hb dX12_bodyFrom_17 hl (by decide) rfl (fun ls hl => ?_)
  refine lv_goto (tgt := 3) hx hb dX12_bodyFrom_19 (by decide) ?_
  refine lv_iload hx hb dX12_bodyFrom_3 (lv_at hl 0 rfl) ?_
  refine lv_iload_n hx hb dX12_bodyFrom_5 rfl (lv_at hl 3 rfl) ?_
  refine pS hC hK hl (m_hasOwn00 l G) si_X12_360 rfl rfl (Nat.le_of_ble_eq_true rfl) ⟨Nat.le_of_ble_eq_true rfl, Nat.le_of_ble_eq_true rfl⟩ ⟨by first | exact Nat.le_of_ble_eq_true rfl | exact Nat.zero_le _, by first | exact Nat.le_of_ble_eq_true rfl | exact Nat.zero_le _⟩ dX12_bodyFrom_6 (fun r6024 hr6024 => ?_)
  obtain rfl := hr6024
  refine lv_if_ne (tgt := 22) hx hb dX12_bodyFrom_9 (by decide) (fun _ => ?_) (fun c9 => absurd c9 (by decide))
  refine lv_aload_n hx hb dX12_bodyFrom_22 rfl (lv_at hl 1 rfl) ?_
  refine lv_iload hx hb dX12_bodyFrom_23 (lv_at hl 0 rfl) ?_
  refine lv_iload_n hx hb dX12_bodyFrom_25 rfl (lv_at hl 3 rfl) ?_
  refine lv_iload_n hx hb dX12_bodyFrom_26 rfl (lv_at hl 4 rfl) ?_
  refine iV (wr := []) hC hK hl hP hD hS hA (m_body00 l G h0 xx nw nk mhasKept nt mtaped nr mrowMany mroundOf mroundFrom mouts nm mfromHour mtoHour ns mfrom mto msort misFault mdeep mcoded mlines nl nc nF np ntr nb mbestCost nso nsi nit nsh nsf nss nrc jr jd mnumber mwhose msize misParted fnrc (by omega) (by omega)) si_X12_363 [0, 1] [] rfl rfl (by decide) rfl (by decide) (by decide) rfl rfl rfl rfl rfl (Nat.le_of_ble_eq_true rfl) ⟨Nat.le_of_ble_eq_true rfl, Nat.le_of_ble_eq_true rfl⟩ ⟨Nat.le_of_ble_eq_true rfl, Nat.le_of_ble_eq_true rfl⟩ dX12_bodyFrom_27 (fun r6026 u6027 H locs hr6026 hP hD hS => ?_)
  obtain ⟨jr16028, ip16029, gtrc6030⟩ := u6027
  try dsimp only at hr6026
  have hP : va_P G.1 vwCl [(h0, .inr (12, [.ref nw, .ref nk, .int mhasKept, .ref nt, .int mtaped, .ref nr, .int mrowMany, .int mroundOf, .int mroundFrom, .int mouts, .ref nm, .int mfromHour, .int mtoHour, .ref ns, .int mfrom, .int mto, .int msort, .int misFault, .int mdeep, .int mcoded, .int mlines, .ref nl, .ref nc, .ref nF, .ref np, .ref ntr, .ref nb, .int mbestCost, .ref nso, .ref nsi, .ref nit, .ref nsh, .ref nsf, .ref nss, .ref nrc, .int (nI jr16028), .int (nI jd), .int mnumber, .int mwhose, .int msize, .int ip16029])), (nrc, .inl (G.2.1, 30, .inl gtrc6030))] H := hP
  have hD : va_D A [(h0, .inr (12, [.ref nw, .ref nk, .int mhasKept, .ref nt, .int mtaped, .ref nr, .int mrowMany, .int mroundOf, .int mroundFrom, .int mouts, .ref nm, .int mfromHour, .int mtoHour, .ref ns, .int mfrom, .int mto, .int msort, .int misFault, .int mdeep, .int mcoded, .int mlines, .ref nl, .ref nc, .ref nF, .ref np, .ref ntr, .ref nb, .int mbestCost, .ref nso, .ref nsi, .ref nit, .ref nsh, .ref nsf, .ref nss, .ref nrc, .int (nI jr16028), .int (nI jd), .int mnumber, .int mwhose, .int msize, .int ip16029])), (nrc, .inl (G.2.1, 30, .inl gtrc6030))] := hD
  obtain ⟨hr6026, w6031⟩ := hr6026
  exact RI (v := r6026) hC hP hD hS [0, 1] (jr16028, ip16029, gtrc6030) rfl rfl (by decide) (⟨trivial, by omega⟩) rfl dX12_bodyFrom_30
set_option maxHeartbeats 4000000 in
set_option maxRecDepth 100000 in
theorem m_from20 (l : Launch) (G : GG) (h0 : Nat) (xx : Int32) (nw : Nat) (nk : Nat) (mhasKept : Int32) (nt : Nat) (mtaped : Int32) (nr : Nat) (mrowMany : Int32) (mroundOf : Int32) (mroundFrom : Int32) (mouts : Int32) (nm : Nat) (mfromHour : Int32) (mtoHour : Int32) (ns : Nat) (mfrom : Int32) (mto : Int32) (msort : Int32) (misFault : Int32) (mdeep : Int32) (mcoded : Int32) (mlines : Int32) (nl : Nat) (nc : Nat) (nF : Nat) (np : Nat) (ntr : Nat) (nb : Nat) (mbestCost : Int32) (nso : Nat) (nsi : Nat) (nit : Nat) (nsh : Nat) (nsf : Nat) (nss : Nat) (nrc : Nat) (jr : Nat) (jd : Nat) (mnumber : Int32) (mwhose : Int32) (msize : Int32) (misParted : Int32) (fnrc : Nat → Int32) (hjr : jr ≤ 30) (hjd : jd < 7) : MI l G yX12_bodyFrom cX12_bodyFrom 5 (some .int) 12 0 0 [.ref h0, .int 2, .int 0, .int xx] [(h0, .inr (12, [.ref nw, .ref nk, .int mhasKept, .ref nt, .int mtaped, .ref nr, .int mrowMany, .int mroundOf, .int mroundFrom, .int mouts, .ref nm, .int mfromHour, .int mtoHour, .ref ns, .int mfrom, .int mto, .int msort, .int misFault, .int mdeep, .int mcoded, .int mlines, .ref nl, .ref nc, .ref nF, .ref np, .ref ntr, .ref nb, .int mbestCost, .ref nso, .ref nsi, .ref nit, .ref nsh, .ref nsf, .ref nss, .ref nrc, .int (nI jr), .int (nI jd), .int mnumber, .int mwhose, .int msize, .int misParted])), (nrc, .inl (G.2.1, 30, .inl fnrc))] (fun (r : Int32) (u : Nat × Int32 × (Nat → Int32)) => (True) ∧ (u.1 ≤ 30)) (fun u : Nat × Int32 × (Nat → Int32) => [(h0, .inr (12, [.ref nw, .ref nk, .int mhasKept, .ref nt, .int mtaped, .ref nr, .int mrowMany, .int mroundOf, .int mroundFrom, .int mouts, .ref nm, .int mfromHour, .int mtoHour, .ref ns, .int mfrom, .int mto, .int msort, .int misFault, .int mdeep, .int mcoded, .int mlines, .ref nl, .ref nc, .ref nF, .ref np, .ref ntr, .ref nb, .int mbestCost, .ref nso, .ref nsi, .ref nit, .ref nsh, .ref nsf, .ref nss, .ref nrc, .int (nI u.1), .int (nI jd), .int mnumber, .int mwhose, .int msize, .int u.2.1])), (nrc, .inl (G.2.1, 30, .inl u.2.2))]) := by
  refine MI.start (by decide +kernel) (Nat.le_of_ble_eq_true rfl) ?_
  intro p e s m below meth c A ls hC hK hP hD hS hA hl
  have hl : lv_has ls 5 [(0, .ref h0), (1, .int 2), (2, .int 0), (3, .int xx)] := hl
  obtain ⟨hx, hb, hr, hml, hB, hown, hlocks, hnm⟩ := id hC
  refine lv_iload_n hx hb dX12_bodyFrom_0 rfl (lv_at hl 1 rfl) ?_
  refine lv_istore (lv' := [(4, .int 2), (0, .ref h0), (1, .int 2), (2, .int 0), (3, .int xx)]) hx hb dX12_bodyFrom_1 hl (by decide) rfl (fun ls hl => ?_)
  refine lv_iload hx hb dX12_bodyFrom_3 (lv_at hl 0 rfl) ?_
  refine lv_iload_n hx hb dX12_bodyFrom_5 rfl (lv_at hl 3 rfl) ?_
  refine pS hC hK hl (m_hasOwn20 l G) si_X12_360 rfl rfl (Nat.le_of_ble_eq_true rfl) ⟨Nat.le_of_ble_eq_true rfl, Nat.le_of_ble_eq_true rfl⟩ ⟨by first | exact Nat.le_of_ble_eq_true rfl | exact Nat.zero_le _, by first | exact Nat.le_of_ble_eq_true rfl | exact Nat.zero_le _⟩ dX12_bodyFrom_6 (fun r6032 hr6032 => ?_)
  obtain rfl := hr6032
  refine lv_if_ne (tgt := 22) hx hb dX12_bodyFrom_9 (by decide) (fun c9 => absurd (by decide) c9) (fun _ => ?_)
  refine lv_iload hx hb dX12_bodyFrom_12 (lv_at hl 0 rfl) ?_
  refine pS hC hK hl (m_above2 l G) si_X12_348 rfl rfl (Nat.le_of_ble_eq_true rfl) ⟨Nat.le_of_ble_eq_true rfl, Nat.le_of_ble_eq_true rfl⟩ ⟨by first | exact Nat.le_of_ble_eq_true rfl | exact Nat.zero_le _, by first | exact Nat.le_of_ble_eq_true rfl | exact Nat.zero_le _⟩ dX12_bodyFrom_14 (fun r6034 hr6034 => ?_)
  obtain rfl := hr6034
  refine lv_istore (lv' := [(4, .int 0), (0, .ref h0), (1, .int 2), (2, .int 0), (3, .int xx)]) hx hb dX12_bodyFrom_17 hl (by decide) rfl (fun ls hl => ?_)
  refine lv_goto (tgt := 3) hx hb dX12_bodyFrom_19 (by decide) ?_
  refine lv_iload hx hb dX12_bodyFrom_3 (lv_at hl 0 rfl) ?_
  refine lv_iload_n hx hb dX12_bodyFrom_5 rfl (lv_at hl 3 rfl) ?_
  refine pS hC hK hl (m_hasOwn00 l G) si_X12_360 rfl rfl (Nat.le_of_ble_eq_true rfl) ⟨Nat.le_of_ble_eq_true rfl, Nat.le_of_ble_eq_true rfl⟩ ⟨by first | exact Nat.le_of_ble_eq_true rfl | exact Nat.zero_le _, by first | exact Nat.le_of_ble_eq_true rfl | exact Nat.zero_le _⟩ dX12_bodyFrom_6 (fun r6036 hr6036 => ?_)
  obtain rfl := hr6036
  refine lv_if_ne (tgt := 22) hx hb dX12_bodyFrom_9 (by decide) (fun _ => ?_) (fun c9 => absurd c9 (by decide))
  refine lv_aload_n hx hb dX12_bodyFrom_22 rfl (lv_at hl 1 rfl) ?_
  refine lv_iload hx hb dX12_bodyFrom_23 (lv_at hl 0 rfl) ?_
  refine lv_iload_n hx hb dX12_bodyFrom_25 rfl (lv_at hl 3 rfl) ?_
  refine lv_iload_n hx hb dX12_bodyFrom_26 rfl (lv_at hl 4 rfl) ?_
  refine iV (wr := []) hC hK hl hP hD hS hA (m_body00 l G h0 xx nw nk mhasKept nt mtaped nr mrowMany mroundOf mroundFrom mouts nm mfromHour mtoHour ns mfrom mto msort misFault mdeep mcoded mlines nl nc nF np ntr nb mbestCost nso nsi nit nsh nsf nss nrc jr jd mnumber mwhose msize misParted fnrc (by omega) (by omega)) si_X12_363 [0, 1] [] rfl rfl (by decide) rfl (by decide) (by decide) rfl rfl rfl rfl rfl (Nat.le_of_ble_eq_true rfl) ⟨Nat.le_of_ble_eq_true rfl, Nat.le_of_ble_eq_true rfl⟩ ⟨Nat.le_of_ble_eq_true rfl, Nat.le_of_ble_eq_true rfl⟩ dX12_bodyFrom_27 (fun r6038 u6039 H locs hr6038 hP hD hS => ?_)
  obtain ⟨jr16040, ip16041, gtrc6042⟩ := u6039
  try dsimp only at hr6038
  have hP : va_P G.1 vwCl [(h0, .inr (12, [.ref nw, .ref nk, .int mhasKept, .ref nt, .int mtaped, .ref nr, .int mrowMany, .int mroundOf, .int mroundFrom, .int mouts, .ref nm, .int mfromHour, .int mtoHour, .ref ns, .int mfrom, .int mto, .int msort, .int misFault, .int mdeep, .int mcoded, .int mlines, .ref nl, .ref nc, .ref nF, .ref np, .ref ntr, .ref nb, .int mbestCost, .ref nso, .ref nsi, .ref nit, .ref nsh, .ref nsf, .ref nss, .ref nrc, .int (nI jr16040), .int (nI jd), .int mnumber, .int mwhose, .int msize, .int ip16041])), (nrc, .inl (G.2.1, 30, .inl gtrc6042))] H := hP
  have hD : va_D A [(h0, .inr (12, [.ref nw, .ref nk, .int mhasKept, .ref nt, .int mtaped, .ref nr, .int mrowMany, .int mroundOf, .int mroundFrom, .int mouts, .ref nm, .int mfromHour, .int mtoHour, .ref ns, .int mfrom, .int mto, .int msort, .int misFault, .int mdeep, .int mcoded, .int mlines, .ref nl, .ref nc, .ref nF, .ref np, .ref ntr, .ref nb, .int mbestCost, .ref nso, .ref nsi, .ref nit, .ref nsh, .ref nsf, .ref nss, .ref nrc, .int (nI jr16040), .int (nI jd), .int mnumber, .int mwhose, .int msize, .int ip16041])), (nrc, .inl (G.2.1, 30, .inl gtrc6042))] := hD
  obtain ⟨hr6038, w6043⟩ := hr6038
  exact RI (v := r6038) hC hP hD hS [0, 1] (jr16040, ip16041, gtrc6042) rfl rfl (by decide) (⟨trivial, by omega⟩) rfl dX12_bodyFrom_30
set_option maxHeartbeats 4000000 in
set_option maxRecDepth 100000 in
theorem m_from30 (l : Launch) (G : GG) (h0 : Nat) (xx : Int32) (nw : Nat) (nk : Nat) (mhasKept : Int32) (nt : Nat) (mtaped : Int32) (nr : Nat) (mrowMany : Int32) (mroundOf : Int32) (mroundFrom : Int32) (mouts : Int32) (nm : Nat) (mfromHour : Int32) (mtoHour : Int32) (ns : Nat) (mfrom : Int32) (mto : Int32) (msort : Int32) (misFault : Int32) (mdeep : Int32) (mcoded : Int32) (mlines : Int32) (nl : Nat) (nc : Nat) (nF : Nat) (np : Nat) (ntr : Nat) (nb : Nat) (mbestCost : Int32) (nso : Nat) (nsi : Nat) (nit : Nat) (nsh : Nat) (nsf : Nat) (nss : Nat) (nrc : Nat) (jr : Nat) (jd : Nat) (mnumber : Int32) (mwhose : Int32) (msize : Int32) (misParted : Int32) (fnrc : Nat → Int32) (hjr : jr ≤ 30) (hjd : jd < 7) : MI l G yX12_bodyFrom cX12_bodyFrom 5 (some .int) 12 0 0 [.ref h0, .int 3, .int 0, .int xx] [(h0, .inr (12, [.ref nw, .ref nk, .int mhasKept, .ref nt, .int mtaped, .ref nr, .int mrowMany, .int mroundOf, .int mroundFrom, .int mouts, .ref nm, .int mfromHour, .int mtoHour, .ref ns, .int mfrom, .int mto, .int msort, .int misFault, .int mdeep, .int mcoded, .int mlines, .ref nl, .ref nc, .ref nF, .ref np, .ref ntr, .ref nb, .int mbestCost, .ref nso, .ref nsi, .ref nit, .ref nsh, .ref nsf, .ref nss, .ref nrc, .int (nI jr), .int (nI jd), .int mnumber, .int mwhose, .int msize, .int misParted])), (nrc, .inl (G.2.1, 30, .inl fnrc))] (fun (r : Int32) (u : Nat × Int32 × (Nat → Int32)) => (True) ∧ (u.1 ≤ 30)) (fun u : Nat × Int32 × (Nat → Int32) => [(h0, .inr (12, [.ref nw, .ref nk, .int mhasKept, .ref nt, .int mtaped, .ref nr, .int mrowMany, .int mroundOf, .int mroundFrom, .int mouts, .ref nm, .int mfromHour, .int mtoHour, .ref ns, .int mfrom, .int mto, .int msort, .int misFault, .int mdeep, .int mcoded, .int mlines, .ref nl, .ref nc, .ref nF, .ref np, .ref ntr, .ref nb, .int mbestCost, .ref nso, .ref nsi, .ref nit, .ref nsh, .ref nsf, .ref nss, .ref nrc, .int (nI u.1), .int (nI jd), .int mnumber, .int mwhose, .int msize, .int u.2.1])), (nrc, .inl (G.2.1, 30, .inl u.2.2))]) := by
  refine MI.start (by decide +kernel) (Nat.le_of_ble_eq_true rfl) ?_
  intro p e s m below meth c A ls hC hK hP hD hS hA hl
  have hl : lv_has ls 5 [(0, .ref h0), (1, .int 3), (2, .int 0), (3, .int xx)] := hl
  obtain ⟨hx, hb, hr, hml, hB, hown, hlocks, hnm⟩ := id hC
  refine lv_iload_n hx hb dX12_bodyFrom_0 rfl (lv_at hl 1 rfl) ?_
  refine lv_istore (lv' := [(4, .int 3), (0, .ref h0), (1, .int 3), (2, .int 0), (3, .int xx)]) hx hb dX12_bodyFrom_1 hl (by decide) rfl (fun ls hl => ?_)
  refine lv_iload hx hb dX12_bodyFrom_3 (lv_at hl 0 rfl) ?_
  refine lv_iload_n hx hb dX12_bodyFrom_5 rfl (lv_at hl 3 rfl) ?_
  refine pS hC hK hl (m_hasOwn30 l G) si_X12_360 rfl rfl (Nat.le_of_ble_eq_true rfl) ⟨Nat.le_of_ble_eq_true rfl, Nat.le_of_ble_eq_true rfl⟩ ⟨by first | exact Nat.le_of_ble_eq_true rfl | exact Nat.zero_le _, by first | exact Nat.le_of_ble_eq_true rfl | exact Nat.zero_le _⟩ dX12_bodyFrom_6 (fun r6044 hr6044 => ?_)
  obtain rfl := hr6044
  refine lv_if_ne (tgt := 22) hx hb dX12_bodyFrom_9 (by decide) (fun c9 => absurd (by decide) c9) (fun _ => ?_)
  refine lv_iload hx hb dX12_bodyFrom_12 (lv_at hl 0 rfl) ?_
  refine pS hC hK hl (m_above3 l G) si_X12_348 rfl rfl (Nat.le_of_ble_eq_true rfl) ⟨Nat.le_of_ble_eq_true rfl, Nat.le_of_ble_eq_true rfl⟩ ⟨by first | exact Nat.le_of_ble_eq_true rfl | exact Nat.zero_le _, by first | exact Nat.le_of_ble_eq_true rfl | exact Nat.zero_le _⟩ dX12_bodyFrom_14 (fun r6046 hr6046 => ?_)
  obtain rfl := hr6046
  refine lv_istore (lv' := [(4, .int 1), (0, .ref h0), (1, .int 3), (2, .int 0), (3, .int xx)]) hx hb dX12_bodyFrom_17 hl (by decide) rfl (fun ls hl => ?_)
  refine lv_goto (tgt := 3) hx hb dX12_bodyFrom_19 (by decide) ?_
  refine lv_iload hx hb dX12_bodyFrom_3 (lv_at hl 0 rfl) ?_
  refine lv_iload_n hx hb dX12_bodyFrom_5 rfl (lv_at hl 3 rfl) ?_
  refine pS hC hK hl (m_hasOwn10 l G) si_X12_360 rfl rfl (Nat.le_of_ble_eq_true rfl) ⟨Nat.le_of_ble_eq_true rfl, Nat.le_of_ble_eq_true rfl⟩ ⟨by first | exact Nat.le_of_ble_eq_true rfl | exact Nat.zero_le _, by first | exact Nat.le_of_ble_eq_true rfl | exact Nat.zero_le _⟩ dX12_bodyFrom_6 (fun r6048 hr6048 => ?_)
  obtain rfl := hr6048
  refine lv_if_ne (tgt := 22) hx hb dX12_bodyFrom_9 (by decide) (fun c9 => absurd (by decide) c9) (fun _ => ?_)
  refine lv_iload hx hb dX12_bodyFrom_12 (lv_at hl 0 rfl) ?_
  refine pS hC hK hl (m_above1 l G) si_X12_348 rfl rfl (Nat.le_of_ble_eq_true rfl) ⟨Nat.le_of_ble_eq_true rfl, Nat.le_of_ble_eq_true rfl⟩ ⟨by first | exact Nat.le_of_ble_eq_true rfl | exact Nat.zero_le _, by first | exact Nat.le_of_ble_eq_true rfl | exact Nat.zero_le _⟩ dX12_bodyFrom_14 (fun r6050 hr6050 => ?_)
  obtain rfl := hr6050
  refine lv_istore (lv' := [(4, .int 0), (0, .ref h0), (1, .int 3), (2, .int 0), (3, .int xx)]) hx hb dX12_bodyFrom_17 hl (by decide) rfl (fun ls hl => ?_)
  refine lv_goto (tgt := 3) hx hb dX12_bodyFrom_19 (by decide) ?_
  refine lv_iload hx hb dX12_bodyFrom_3 (lv_at hl 0 rfl) ?_
  refine lv_iload_n hx hb dX12_bodyFrom_5 rfl (lv_at hl 3 rfl) ?_
  refine pS hC hK hl (m_hasOwn00 l G) si_X12_360 rfl rfl (Nat.le_of_ble_eq_true rfl) ⟨Nat.le_of_ble_eq_true rfl, Nat.le_of_ble_eq_true rfl⟩ ⟨by first | exact Nat.le_of_ble_eq_true rfl | exact Nat.zero_le _, by first | exact Nat.le_of_ble_eq_true rfl | exact Nat.zero_le _⟩ dX12_bodyFrom_6 (fun r6052 hr6052 => ?_)
  obtain rfl := hr6052
  refine lv_if_ne (tgt := 22) hx hb dX12_bodyFrom_9 (by decide) (fun _ => ?_) (fun c9 => absurd c9 (by decide))
  refine lv_aload_n hx hb dX12_bodyFrom_22 rfl (lv_at hl 1 rfl) ?_
  refine lv_iload hx hb dX12_bodyFrom_23 (lv_at hl 0 rfl) ?_
  refine lv_iload_n hx hb dX12_bodyFrom_25 rfl (lv_at hl 3 rfl) ?_
  refine lv_iload_n hx hb dX12_bodyFrom_26 rfl (lv_at hl 4 rfl) ?_
  refine iV (wr := []) hC hK hl hP hD hS hA (m_body00 l G h0 xx nw nk mhasKept nt mtaped nr mrowMany mroundOf mroundFrom mouts nm mfromHour mtoHour ns mfrom mto msort misFault mdeep mcoded mlines nl nc nF np ntr nb mbestCost nso nsi nit nsh nsf nss nrc jr jd mnumber mwhose msize misParted fnrc (by omega) (by omega)) si_X12_363 [0, 1] [] rfl rfl (by decide) rfl (by decide) (by decide) rfl rfl rfl rfl rfl (Nat.le_of_ble_eq_true rfl) ⟨Nat.le_of_ble_eq_true rfl, Nat.le_of_ble_eq_true rfl⟩ ⟨Nat.le_of_ble_eq_true rfl, Nat.le_of_ble_eq_true rfl⟩ dX12_bodyFrom_27 (fun r6054 u6055 H locs hr6054 hP hD hS => ?_)
  obtain ⟨jr16056, ip16057, gtrc6058⟩ := u6055
  try dsimp only at hr6054
  have hP : va_P G.1 vwCl [(h0, .inr (12, [.ref nw, .ref nk, .int mhasKept, .ref nt, .int mtaped, .ref nr, .int mrowMany, .int mroundOf, .int mroundFrom, .int mouts, .ref nm, .int mfromHour, .int mtoHour, .ref ns, .int mfrom, .int mto, .int msort, .int misFault, .int mdeep, .int mcoded, .int mlines, .ref nl, .ref nc, .ref nF, .ref np, .ref ntr, .ref nb, .int mbestCost, .ref nso, .ref nsi, .ref nit, .ref nsh, .ref nsf, .ref nss, .ref nrc, .int (nI jr16056), .int (nI jd), .int mnumber, .int mwhose, .int msize, .int ip16057])), (nrc, .inl (G.2.1, 30, .inl gtrc6058))] H := hP
  have hD : va_D A [(h0, .inr (12, [.ref nw, .ref nk, .int mhasKept, .ref nt, .int mtaped, .ref nr, .int mrowMany, .int mroundOf, .int mroundFrom, .int mouts, .ref nm, .int mfromHour, .int mtoHour, .ref ns, .int mfrom, .int mto, .int msort, .int misFault, .int mdeep, .int mcoded, .int mlines, .ref nl, .ref nc, .ref nF, .ref np, .ref ntr, .ref nb, .int mbestCost, .ref nso, .ref nsi, .ref nit, .ref nsh, .ref nsf, .ref nss, .ref nrc, .int (nI jr16056), .int (nI jd), .int mnumber, .int mwhose, .int msize, .int ip16057])), (nrc, .inl (G.2.1, 30, .inl gtrc6058))] := hD
  obtain ⟨hr6054, w6059⟩ := hr6054
  exact RI (v := r6054) hC hP hD hS [0, 1] (jr16056, ip16057, gtrc6058) rfl rfl (by decide) (⟨trivial, by omega⟩) rfl dX12_bodyFrom_30
set_option maxHeartbeats 4000000 in
set_option maxRecDepth 100000 in
theorem m_from60 (l : Launch) (G : GG) (h0 : Nat) (xx : Int32) (nw : Nat) (nk : Nat) (mhasKept : Int32) (nt : Nat) (mtaped : Int32) (nr : Nat) (mrowMany : Int32) (mroundOf : Int32) (mroundFrom : Int32) (mouts : Int32) (nm : Nat) (mfromHour : Int32) (mtoHour : Int32) (ns : Nat) (mfrom : Int32) (mto : Int32) (msort : Int32) (misFault : Int32) (mdeep : Int32) (mcoded : Int32) (mlines : Int32) (nl : Nat) (nc : Nat) (nF : Nat) (np : Nat) (ntr : Nat) (nb : Nat) (mbestCost : Int32) (nso : Nat) (nsi : Nat) (nit : Nat) (nsh : Nat) (nsf : Nat) (nss : Nat) (nrc : Nat) (jr : Nat) (jd : Nat) (mnumber : Int32) (mwhose : Int32) (msize : Int32) (misParted : Int32) (fnrc : Nat → Int32) (hjr : jr ≤ 30) (hjd : jd < 7) : MI l G yX12_bodyFrom cX12_bodyFrom 5 (some .int) 12 0 0 [.ref h0, .int 6, .int 0, .int xx] [(h0, .inr (12, [.ref nw, .ref nk, .int mhasKept, .ref nt, .int mtaped, .ref nr, .int mrowMany, .int mroundOf, .int mroundFrom, .int mouts, .ref nm, .int mfromHour, .int mtoHour, .ref ns, .int mfrom, .int mto, .int msort, .int misFault, .int mdeep, .int mcoded, .int mlines, .ref nl, .ref nc, .ref nF, .ref np, .ref ntr, .ref nb, .int mbestCost, .ref nso, .ref nsi, .ref nit, .ref nsh, .ref nsf, .ref nss, .ref nrc, .int (nI jr), .int (nI jd), .int mnumber, .int mwhose, .int msize, .int misParted])), (nrc, .inl (G.2.1, 30, .inl fnrc))] (fun (r : Int32) (u : Nat × Int32 × (Nat → Int32)) => (True) ∧ (u.1 ≤ 30)) (fun u : Nat × Int32 × (Nat → Int32) => [(h0, .inr (12, [.ref nw, .ref nk, .int mhasKept, .ref nt, .int mtaped, .ref nr, .int mrowMany, .int mroundOf, .int mroundFrom, .int mouts, .ref nm, .int mfromHour, .int mtoHour, .ref ns, .int mfrom, .int mto, .int msort, .int misFault, .int mdeep, .int mcoded, .int mlines, .ref nl, .ref nc, .ref nF, .ref np, .ref ntr, .ref nb, .int mbestCost, .ref nso, .ref nsi, .ref nit, .ref nsh, .ref nsf, .ref nss, .ref nrc, .int (nI u.1), .int (nI jd), .int mnumber, .int mwhose, .int msize, .int u.2.1])), (nrc, .inl (G.2.1, 30, .inl u.2.2))]) := by
  refine MI.start (by decide +kernel) (Nat.le_of_ble_eq_true rfl) ?_
  intro p e s m below meth c A ls hC hK hP hD hS hA hl
  have hl : lv_has ls 5 [(0, .ref h0), (1, .int 6), (2, .int 0), (3, .int xx)] := hl
  obtain ⟨hx, hb, hr, hml, hB, hown, hlocks, hnm⟩ := id hC
  refine lv_iload_n hx hb dX12_bodyFrom_0 rfl (lv_at hl 1 rfl) ?_
  refine lv_istore (lv' := [(4, .int 6), (0, .ref h0), (1, .int 6), (2, .int 0), (3, .int xx)]) hx hb dX12_bodyFrom_1 hl (by decide) rfl (fun ls hl => ?_)
  refine lv_iload hx hb dX12_bodyFrom_3 (lv_at hl 0 rfl) ?_
  refine lv_iload_n hx hb dX12_bodyFrom_5 rfl (lv_at hl 3 rfl) ?_
  refine pS hC hK hl (m_hasOwn60 l G) si_X12_360 rfl rfl (Nat.le_of_ble_eq_true rfl) ⟨Nat.le_of_ble_eq_true rfl, Nat.le_of_ble_eq_true rfl⟩ ⟨by first | exact Nat.le_of_ble_eq_true rfl | exact Nat.zero_le _, by first | exact Nat.le_of_ble_eq_true rfl | exact Nat.zero_le _⟩ dX12_bodyFrom_6 (fun r6060 hr6060 => ?_)
  obtain rfl := hr6060
  refine lv_if_ne (tgt := 22) hx hb dX12_bodyFrom_9 (by decide) (fun c9 => absurd (by decide) c9) (fun _ => ?_)
  refine lv_iload hx hb dX12_bodyFrom_12 (lv_at hl 0 rfl) ?_
  refine pS hC hK hl (m_above6 l G) si_X12_348 rfl rfl (Nat.le_of_ble_eq_true rfl) ⟨Nat.le_of_ble_eq_true rfl, Nat.le_of_ble_eq_true rfl⟩ ⟨by first | exact Nat.le_of_ble_eq_true rfl | exact Nat.zero_le _, by first | exact Nat.le_of_ble_eq_true rfl | exact Nat.zero_le _⟩ dX12_bodyFrom_14 (fun r6062 hr6062 => ?_)
  obtain rfl := hr6062
  refine lv_istore (lv' := [(4, .int 0), (0, .ref h0), (1, .int 6), (2, .int 0), (3, .int xx)]) hx hb dX12_bodyFrom_17 hl (by decide) rfl (fun ls hl => ?_)
  refine lv_goto (tgt := 3) hx hb dX12_bodyFrom_19 (by decide) ?_
  refine lv_iload hx hb dX12_bodyFrom_3 (lv_at hl 0 rfl) ?_
  refine lv_iload_n hx hb dX12_bodyFrom_5 rfl (lv_at hl 3 rfl) ?_
  refine pS hC hK hl (m_hasOwn00 l G) si_X12_360 rfl rfl (Nat.le_of_ble_eq_true rfl) ⟨Nat.le_of_ble_eq_true rfl, Nat.le_of_ble_eq_true rfl⟩ ⟨by first | exact Nat.le_of_ble_eq_true rfl | exact Nat.zero_le _, by first | exact Nat.le_of_ble_eq_true rfl | exact Nat.zero_le _⟩ dX12_bodyFrom_6 (fun r6064 hr6064 => ?_)
  obtain rfl := hr6064
  refine lv_if_ne (tgt := 22) hx hb dX12_bodyFrom_9 (by decide) (fun _ => ?_) (fun c9 => absurd c9 (by decide))
  refine lv_aload_n hx hb dX12_bodyFrom_22 rfl (lv_at hl 1 rfl) ?_
  refine lv_iload hx hb dX12_bodyFrom_23 (lv_at hl 0 rfl) ?_
  refine lv_iload_n hx hb dX12_bodyFrom_25 rfl (lv_at hl 3 rfl) ?_
  refine lv_iload_n hx hb dX12_bodyFrom_26 rfl (lv_at hl 4 rfl) ?_
  refine iV (wr := []) hC hK hl hP hD hS hA (m_body00 l G h0 xx nw nk mhasKept nt mtaped nr mrowMany mroundOf mroundFrom mouts nm mfromHour mtoHour ns mfrom mto msort misFault mdeep mcoded mlines nl nc nF np ntr nb mbestCost nso nsi nit nsh nsf nss nrc jr jd mnumber mwhose msize misParted fnrc (by omega) (by omega)) si_X12_363 [0, 1] [] rfl rfl (by decide) rfl (by decide) (by decide) rfl rfl rfl rfl rfl (Nat.le_of_ble_eq_true rfl) ⟨Nat.le_of_ble_eq_true rfl, Nat.le_of_ble_eq_true rfl⟩ ⟨Nat.le_of_ble_eq_true rfl, Nat.le_of_ble_eq_true rfl⟩ dX12_bodyFrom_27 (fun r6066 u6067 H locs hr6066 hP hD hS => ?_)
  obtain ⟨jr16068, ip16069, gtrc6070⟩ := u6067
  try dsimp only at hr6066
  have hP : va_P G.1 vwCl [(h0, .inr (12, [.ref nw, .ref nk, .int mhasKept, .ref nt, .int mtaped, .ref nr, .int mrowMany, .int mroundOf, .int mroundFrom, .int mouts, .ref nm, .int mfromHour, .int mtoHour, .ref ns, .int mfrom, .int mto, .int msort, .int misFault, .int mdeep, .int mcoded, .int mlines, .ref nl, .ref nc, .ref nF, .ref np, .ref ntr, .ref nb, .int mbestCost, .ref nso, .ref nsi, .ref nit, .ref nsh, .ref nsf, .ref nss, .ref nrc, .int (nI jr16068), .int (nI jd), .int mnumber, .int mwhose, .int msize, .int ip16069])), (nrc, .inl (G.2.1, 30, .inl gtrc6070))] H := hP
  have hD : va_D A [(h0, .inr (12, [.ref nw, .ref nk, .int mhasKept, .ref nt, .int mtaped, .ref nr, .int mrowMany, .int mroundOf, .int mroundFrom, .int mouts, .ref nm, .int mfromHour, .int mtoHour, .ref ns, .int mfrom, .int mto, .int msort, .int misFault, .int mdeep, .int mcoded, .int mlines, .ref nl, .ref nc, .ref nF, .ref np, .ref ntr, .ref nb, .int mbestCost, .ref nso, .ref nsi, .ref nit, .ref nsh, .ref nsf, .ref nss, .ref nrc, .int (nI jr16068), .int (nI jd), .int mnumber, .int mwhose, .int msize, .int ip16069])), (nrc, .inl (G.2.1, 30, .inl gtrc6070))] := hD
  obtain ⟨hr6066, w6071⟩ := hr6066
  exact RI (v := r6066) hC hP hD hS [0, 1] (jr16068, ip16069, gtrc6070) rfl rfl (by decide) (⟨trivial, by omega⟩) rfl dX12_bodyFrom_30
set_option maxHeartbeats 4000000 in
set_option maxRecDepth 100000 in
theorem m_dealt0 (l : Launch) (G : GG) (h0 : Nat) (xx : Int32) (nw : Nat) (nk : Nat) (mhasKept : Int32) (nt : Nat) (mtaped : Int32) (nr : Nat) (mrowMany : Int32) (mroundOf : Int32) (mroundFrom : Int32) (mouts : Int32) (nm : Nat) (mfromHour : Int32) (mtoHour : Int32) (ns : Nat) (mfrom : Int32) (mto : Int32) (msort : Int32) (misFault : Int32) (mdeep : Int32) (mcoded : Int32) (mlines : Int32) (nl : Nat) (nc : Nat) (nF : Nat) (np : Nat) (ntr : Nat) (nb : Nat) (mbestCost : Int32) (nso : Nat) (nsi : Nat) (nit : Nat) (nsh : Nat) (nsf : Nat) (nss : Nat) (nrc : Nat) (jr : Nat) (jd : Nat) (mnumber : Int32) (mwhose : Int32) (msize : Int32) (misParted : Int32) (fnrc : Nat → Int32) (hjr : jr ≤ 30) (hjd : jd < 7) : MI l G yX12_dealt cX12_dealt 3 (some .int) 14 0 0 [.ref h0, .int 0, .int xx] [(h0, .inr (12, [.ref nw, .ref nk, .int mhasKept, .ref nt, .int mtaped, .ref nr, .int mrowMany, .int mroundOf, .int mroundFrom, .int mouts, .ref nm, .int mfromHour, .int mtoHour, .ref ns, .int mfrom, .int mto, .int msort, .int misFault, .int mdeep, .int mcoded, .int mlines, .ref nl, .ref nc, .ref nF, .ref np, .ref ntr, .ref nb, .int mbestCost, .ref nso, .ref nsi, .ref nit, .ref nsh, .ref nsf, .ref nss, .ref nrc, .int (nI jr), .int (nI jd), .int mnumber, .int mwhose, .int msize, .int misParted])), (nrc, .inl (G.2.1, 30, .inl fnrc))] (fun (r : Int32) (u : Nat × Int32 × (Nat → Int32)) => (True) ∧ (u.1 ≤ 30)) (fun u : Nat × Int32 × (Nat → Int32) => [(h0, .inr (12, [.ref nw, .ref nk, .int mhasKept, .ref nt, .int mtaped, .ref nr, .int mrowMany, .int mroundOf, .int mroundFrom, .int mouts, .ref nm, .int mfromHour, .int mtoHour, .ref ns, .int mfrom, .int mto, .int msort, .int misFault, .int mdeep, .int mcoded, .int mlines, .ref nl, .ref nc, .ref nF, .ref np, .ref ntr, .ref nb, .int mbestCost, .ref nso, .ref nsi, .ref nit, .ref nsh, .ref nsf, .ref nss, .ref nrc, .int (nI u.1), .int (nI jd), .int mnumber, .int mwhose, .int msize, .int u.2.1])), (nrc, .inl (G.2.1, 30, .inl u.2.2))]) := by
  refine MI.start (by decide +kernel) (Nat.le_of_ble_eq_true rfl) ?_
  intro p e s m below meth c A ls hC hK hP hD hS hA hl
  have hl : lv_has ls 3 [(0, .ref h0), (1, .int 0), (2, .int xx)] := hl
  obtain ⟨hx, hb, hr, hml, hB, hown, hlocks, hnm⟩ := id hC
  refine lv_aload_n hx hb dX12_dealt_0 rfl (lv_at hl 0 rfl) ?_
  refine lv_aload_n hx hb dX12_dealt_1 rfl (lv_at hl 0 rfl) ?_
  refine gf_X12_354 hC rfl hK hP 0 rfl rfl dX12_dealt_2 ?_
  refine lv_iload_n hx hb dX12_dealt_5 rfl (lv_at hl 1 rfl) ?_
  refine lv_iload_n hx hb dX12_dealt_6 rfl (lv_at hl 2 rfl) ?_
  rcases (show jd = 0 ∨ jd = 1 ∨ jd = 2 ∨ jd = 3 ∨ jd = 4 ∨ jd = 5 ∨ jd = 6 by omega) with rfl | rfl | rfl | rfl | rfl | rfl | rfl
  · refine iV (wr := []) hC hK hl hP hD hS hA (m_from00 l G h0 xx nw nk mhasKept nt mtaped nr mrowMany mroundOf mroundFrom mouts nm mfromHour mtoHour ns mfrom mto msort misFault mdeep mcoded mlines nl nc nF np ntr nb mbestCost nso nsi nit nsh nsf nss nrc jr 0 mnumber mwhose msize misParted fnrc (by omega) (by omega)) si_X12_357 [0, 1] [] rfl rfl (by decide) rfl (by decide) (by decide) rfl rfl rfl rfl rfl (Nat.le_of_ble_eq_true rfl) ⟨Nat.le_of_ble_eq_true rfl, Nat.le_of_ble_eq_true rfl⟩ ⟨Nat.le_of_ble_eq_true rfl, Nat.le_of_ble_eq_true rfl⟩ dX12_dealt_7 (fun r6072 u6073 H locs hr6072 hP hD hS => ?_)
    obtain ⟨jr16074, ip16075, gtrc6076⟩ := u6073
    try dsimp only at hr6072
    have hP : va_P G.1 vwCl [(h0, .inr (12, [.ref nw, .ref nk, .int mhasKept, .ref nt, .int mtaped, .ref nr, .int mrowMany, .int mroundOf, .int mroundFrom, .int mouts, .ref nm, .int mfromHour, .int mtoHour, .ref ns, .int mfrom, .int mto, .int msort, .int misFault, .int mdeep, .int mcoded, .int mlines, .ref nl, .ref nc, .ref nF, .ref np, .ref ntr, .ref nb, .int mbestCost, .ref nso, .ref nsi, .ref nit, .ref nsh, .ref nsf, .ref nss, .ref nrc, .int (nI jr16074), .int 0, .int mnumber, .int mwhose, .int msize, .int ip16075])), (nrc, .inl (G.2.1, 30, .inl gtrc6076))] H := hP
    have hD : va_D A [(h0, .inr (12, [.ref nw, .ref nk, .int mhasKept, .ref nt, .int mtaped, .ref nr, .int mrowMany, .int mroundOf, .int mroundFrom, .int mouts, .ref nm, .int mfromHour, .int mtoHour, .ref ns, .int mfrom, .int mto, .int msort, .int misFault, .int mdeep, .int mcoded, .int mlines, .ref nl, .ref nc, .ref nF, .ref np, .ref ntr, .ref nb, .int mbestCost, .ref nso, .ref nsi, .ref nit, .ref nsh, .ref nsf, .ref nss, .ref nrc, .int (nI jr16074), .int 0, .int mnumber, .int mwhose, .int msize, .int ip16075])), (nrc, .inl (G.2.1, 30, .inl gtrc6076))] := hD
    obtain ⟨hr6072, w6077⟩ := hr6072
    exact RI (v := r6072) hC hP hD hS [0, 1] (jr16074, ip16075, gtrc6076) rfl rfl (by decide) (⟨trivial, by omega⟩) rfl dX12_dealt_10
  · refine iV (wr := []) hC hK hl hP hD hS hA (m_from10 l G h0 xx nw nk mhasKept nt mtaped nr mrowMany mroundOf mroundFrom mouts nm mfromHour mtoHour ns mfrom mto msort misFault mdeep mcoded mlines nl nc nF np ntr nb mbestCost nso nsi nit nsh nsf nss nrc jr 1 mnumber mwhose msize misParted fnrc (by omega) (by omega)) si_X12_357 [0, 1] [] rfl rfl (by decide) rfl (by decide) (by decide) rfl rfl rfl rfl rfl (Nat.le_of_ble_eq_true rfl) ⟨Nat.le_of_ble_eq_true rfl, Nat.le_of_ble_eq_true rfl⟩ ⟨Nat.le_of_ble_eq_true rfl, Nat.le_of_ble_eq_true rfl⟩ dX12_dealt_7 (fun r6078 u6079 H locs hr6078 hP hD hS => ?_)
    obtain ⟨jr16080, ip16081, gtrc6082⟩ := u6079
    try dsimp only at hr6078
    have hP : va_P G.1 vwCl [(h0, .inr (12, [.ref nw, .ref nk, .int mhasKept, .ref nt, .int mtaped, .ref nr, .int mrowMany, .int mroundOf, .int mroundFrom, .int mouts, .ref nm, .int mfromHour, .int mtoHour, .ref ns, .int mfrom, .int mto, .int msort, .int misFault, .int mdeep, .int mcoded, .int mlines, .ref nl, .ref nc, .ref nF, .ref np, .ref ntr, .ref nb, .int mbestCost, .ref nso, .ref nsi, .ref nit, .ref nsh, .ref nsf, .ref nss, .ref nrc, .int (nI jr16080), .int 1, .int mnumber, .int mwhose, .int msize, .int ip16081])), (nrc, .inl (G.2.1, 30, .inl gtrc6082))] H := hP
    have hD : va_D A [(h0, .inr (12, [.ref nw, .ref nk, .int mhasKept, .ref nt, .int mtaped, .ref nr, .int mrowMany, .int mroundOf, .int mroundFrom, .int mouts, .ref nm, .int mfromHour, .int mtoHour, .ref ns, .int mfrom, .int mto, .int msort, .int misFault, .int mdeep, .int mcoded, .int mlines, .ref nl, .ref nc, .ref nF, .ref np, .ref ntr, .ref nb, .int mbestCost, .ref nso, .ref nsi, .ref nit, .ref nsh, .ref nsf, .ref nss, .ref nrc, .int (nI jr16080), .int 1, .int mnumber, .int mwhose, .int msize, .int ip16081])), (nrc, .inl (G.2.1, 30, .inl gtrc6082))] := hD
    obtain ⟨hr6078, w6083⟩ := hr6078
    exact RI (v := r6078) hC hP hD hS [0, 1] (jr16080, ip16081, gtrc6082) rfl rfl (by decide) (⟨trivial, by omega⟩) rfl dX12_dealt_10
  · refine iV (wr := []) hC hK hl hP hD hS hA (m_from20 l G h0 xx nw nk mhasKept nt mtaped nr mrowMany mroundOf mroundFrom mouts nm mfromHour mtoHour ns mfrom mto msort misFault mdeep mcoded mlines nl nc nF np ntr nb mbestCost nso nsi nit nsh nsf nss nrc jr 2 mnumber mwhose msize misParted fnrc (by omega) (by omega)) si_X12_357 [0, 1] [] rfl rfl (by decide) rfl (by decide) (by decide) rfl rfl rfl rfl rfl (Nat.le_of_ble_eq_true rfl) ⟨Nat.le_of_ble_eq_true rfl, Nat.le_of_ble_eq_true rfl⟩ ⟨Nat.le_of_ble_eq_true rfl, Nat.le_of_ble_eq_true rfl⟩ dX12_dealt_7 (fun r6084 u6085 H locs hr6084 hP hD hS => ?_)
    obtain ⟨jr16086, ip16087, gtrc6088⟩ := u6085
    try dsimp only at hr6084
    have hP : va_P G.1 vwCl [(h0, .inr (12, [.ref nw, .ref nk, .int mhasKept, .ref nt, .int mtaped, .ref nr, .int mrowMany, .int mroundOf, .int mroundFrom, .int mouts, .ref nm, .int mfromHour, .int mtoHour, .ref ns, .int mfrom, .int mto, .int msort, .int misFault, .int mdeep, .int mcoded, .int mlines, .ref nl, .ref nc, .ref nF, .ref np, .ref ntr, .ref nb, .int mbestCost, .ref nso, .ref nsi, .ref nit, .ref nsh, .ref nsf, .ref nss, .ref nrc, .int (nI jr16086), .int 2, .int mnumber, .int mwhose, .int msize, .int ip16087])), (nrc, .inl (G.2.1, 30, .inl gtrc6088))] H := hP
    have hD : va_D A [(h0, .inr (12, [.ref nw, .ref nk, .int mhasKept, .ref nt, .int mtaped, .ref nr, .int mrowMany, .int mroundOf, .int mroundFrom, .int mouts, .ref nm, .int mfromHour, .int mtoHour, .ref ns, .int mfrom, .int mto, .int msort, .int misFault, .int mdeep, .int mcoded, .int mlines, .ref nl, .ref nc, .ref nF, .ref np, .ref ntr, .ref nb, .int mbestCost, .ref nso, .ref nsi, .ref nit, .ref nsh, .ref nsf, .ref nss, .ref nrc, .int (nI jr16086), .int 2, .int mnumber, .int mwhose, .int msize, .int ip16087])), (nrc, .inl (G.2.1, 30, .inl gtrc6088))] := hD
    obtain ⟨hr6084, w6089⟩ := hr6084
    exact RI (v := r6084) hC hP hD hS [0, 1] (jr16086, ip16087, gtrc6088) rfl rfl (by decide) (⟨trivial, by omega⟩) rfl dX12_dealt_10
  · refine iV (wr := []) hC hK hl hP hD hS hA (m_from30 l G h0 xx nw nk mhasKept nt mtaped nr mrowMany mroundOf mroundFrom mouts nm mfromHour mtoHour ns mfrom mto msort misFault mdeep mcoded mlines nl nc nF np ntr nb mbestCost nso nsi nit nsh nsf nss nrc jr 3 mnumber mwhose msize misParted fnrc (by omega) (by omega)) si_X12_357 [0, 1] [] rfl rfl (by decide) rfl (by decide) (by decide) rfl rfl rfl rfl rfl (Nat.le_of_ble_eq_true rfl) ⟨Nat.le_of_ble_eq_true rfl, Nat.le_of_ble_eq_true rfl⟩ ⟨Nat.le_of_ble_eq_true rfl, Nat.le_of_ble_eq_true rfl⟩ dX12_dealt_7 (fun r6090 u6091 H locs hr6090 hP hD hS => ?_)
    obtain ⟨jr16092, ip16093, gtrc6094⟩ := u6091
    try dsimp only at hr6090
    have hP : va_P G.1 vwCl [(h0, .inr (12, [.ref nw, .ref nk, .int mhasKept, .ref nt, .int mtaped, .ref nr, .int mrowMany, .int mroundOf, .int mroundFrom, .int mouts, .ref nm, .int mfromHour, .int mtoHour, .ref ns, .int mfrom, .int mto, .int msort, .int misFault, .int mdeep, .int mcoded, .int mlines, .ref nl, .ref nc, .ref nF, .ref np, .ref ntr, .ref nb, .int mbestCost, .ref nso, .ref nsi, .ref nit, .ref nsh, .ref nsf, .ref nss, .ref nrc, .int (nI jr16092), .int 3, .int mnumber, .int mwhose, .int msize, .int ip16093])), (nrc, .inl (G.2.1, 30, .inl gtrc6094))] H := hP
    have hD : va_D A [(h0, .inr (12, [.ref nw, .ref nk, .int mhasKept, .ref nt, .int mtaped, .ref nr, .int mrowMany, .int mroundOf, .int mroundFrom, .int mouts, .ref nm, .int mfromHour, .int mtoHour, .ref ns, .int mfrom, .int mto, .int msort, .int misFault, .int mdeep, .int mcoded, .int mlines, .ref nl, .ref nc, .ref nF, .ref np, .ref ntr, .ref nb, .int mbestCost, .ref nso, .ref nsi, .ref nit, .ref nsh, .ref nsf, .ref nss, .ref nrc, .int (nI jr16092), .int 3, .int mnumber, .int mwhose, .int msize, .int ip16093])), (nrc, .inl (G.2.1, 30, .inl gtrc6094))] := hD
    obtain ⟨hr6090, w6095⟩ := hr6090
    exact RI (v := r6090) hC hP hD hS [0, 1] (jr16092, ip16093, gtrc6094) rfl rfl (by decide) (⟨trivial, by omega⟩) rfl dX12_dealt_10
  · refine iV (wr := []) hC hK hl hP hD hS hA (m_from40 l G h0 xx nw nk mhasKept nt mtaped nr mrowMany mroundOf mroundFrom mouts nm mfromHour mtoHour ns mfrom mto msort misFault mdeep mcoded mlines nl nc nF np ntr nb mbestCost nso nsi nit nsh nsf nss nrc jr 4 mnumber mwhose msize misParted fnrc (by omega) (by omega)) si_X12_357 [0, 1] [] rfl rfl (by decide) rfl (by decide) (by decide) rfl rfl rfl rfl rfl (Nat.le_of_ble_eq_true rfl) ⟨Nat.le_of_ble_eq_true rfl, Nat.le_of_ble_eq_true rfl⟩ ⟨Nat.le_of_ble_eq_true rfl, Nat.le_of_ble_eq_true rfl⟩ dX12_dealt_7 (fun r6096 u6097 H locs hr6096 hP hD hS => ?_)
    obtain ⟨jr16098, ip16099, gtrc6100⟩ := u6097
    try dsimp only at hr6096
    have hP : va_P G.1 vwCl [(h0, .inr (12, [.ref nw, .ref nk, .int mhasKept, .ref nt, .int mtaped, .ref nr, .int mrowMany, .int mroundOf, .int mroundFrom, .int mouts, .ref nm, .int mfromHour, .int mtoHour, .ref ns, .int mfrom, .int mto, .int msort, .int misFault, .int mdeep, .int mcoded, .int mlines, .ref nl, .ref nc, .ref nF, .ref np, .ref ntr, .ref nb, .int mbestCost, .ref nso, .ref nsi, .ref nit, .ref nsh, .ref nsf, .ref nss, .ref nrc, .int (nI jr16098), .int 4, .int mnumber, .int mwhose, .int msize, .int ip16099])), (nrc, .inl (G.2.1, 30, .inl gtrc6100))] H := hP
    have hD : va_D A [(h0, .inr (12, [.ref nw, .ref nk, .int mhasKept, .ref nt, .int mtaped, .ref nr, .int mrowMany, .int mroundOf, .int mroundFrom, .int mouts, .ref nm, .int mfromHour, .int mtoHour, .ref ns, .int mfrom, .int mto, .int msort, .int misFault, .int mdeep, .int mcoded, .int mlines, .ref nl, .ref nc, .ref nF, .ref np, .ref ntr, .ref nb, .int mbestCost, .ref nso, .ref nsi, .ref nit, .ref nsh, .ref nsf, .ref nss, .ref nrc, .int (nI jr16098), .int 4, .int mnumber, .int mwhose, .int msize, .int ip16099])), (nrc, .inl (G.2.1, 30, .inl gtrc6100))] := hD
    obtain ⟨hr6096, w6101⟩ := hr6096
    exact RI (v := r6096) hC hP hD hS [0, 1] (jr16098, ip16099, gtrc6100) rfl rfl (by decide) (⟨trivial, by omega⟩) rfl dX12_dealt_10
  · refine iV (wr := []) hC hK hl hP hD hS hA (m_from50 l G h0 xx nw nk mhasKept nt mtaped nr mrowMany mroundOf mroundFrom mouts nm mfromHour mtoHour ns mfrom mto msort misFault mdeep mcoded mlines nl nc nF np ntr nb mbestCost nso nsi nit nsh nsf nss nrc jr 5 mnumber mwhose msize misParted fnrc (by omega) (by omega)) si_X12_357 [0, 1] [] rfl rfl (by decide) rfl (by decide) (by decide) rfl rfl rfl rfl rfl (Nat.le_of_ble_eq_true rfl) ⟨Nat.le_of_ble_eq_true rfl, Nat.le_of_ble_eq_true rfl⟩ ⟨Nat.le_of_ble_eq_true rfl, Nat.le_of_ble_eq_true rfl⟩ dX12_dealt_7 (fun r6102 u6103 H locs hr6102 hP hD hS => ?_)
    obtain ⟨jr16104, ip16105, gtrc6106⟩ := u6103
    try dsimp only at hr6102
    have hP : va_P G.1 vwCl [(h0, .inr (12, [.ref nw, .ref nk, .int mhasKept, .ref nt, .int mtaped, .ref nr, .int mrowMany, .int mroundOf, .int mroundFrom, .int mouts, .ref nm, .int mfromHour, .int mtoHour, .ref ns, .int mfrom, .int mto, .int msort, .int misFault, .int mdeep, .int mcoded, .int mlines, .ref nl, .ref nc, .ref nF, .ref np, .ref ntr, .ref nb, .int mbestCost, .ref nso, .ref nsi, .ref nit, .ref nsh, .ref nsf, .ref nss, .ref nrc, .int (nI jr16104), .int 5, .int mnumber, .int mwhose, .int msize, .int ip16105])), (nrc, .inl (G.2.1, 30, .inl gtrc6106))] H := hP
    have hD : va_D A [(h0, .inr (12, [.ref nw, .ref nk, .int mhasKept, .ref nt, .int mtaped, .ref nr, .int mrowMany, .int mroundOf, .int mroundFrom, .int mouts, .ref nm, .int mfromHour, .int mtoHour, .ref ns, .int mfrom, .int mto, .int msort, .int misFault, .int mdeep, .int mcoded, .int mlines, .ref nl, .ref nc, .ref nF, .ref np, .ref ntr, .ref nb, .int mbestCost, .ref nso, .ref nsi, .ref nit, .ref nsh, .ref nsf, .ref nss, .ref nrc, .int (nI jr16104), .int 5, .int mnumber, .int mwhose, .int msize, .int ip16105])), (nrc, .inl (G.2.1, 30, .inl gtrc6106))] := hD
    obtain ⟨hr6102, w6107⟩ := hr6102
    exact RI (v := r6102) hC hP hD hS [0, 1] (jr16104, ip16105, gtrc6106) rfl rfl (by decide) (⟨trivial, by omega⟩) rfl dX12_dealt_10
  · refine iV (wr := []) hC hK hl hP hD hS hA (m_from60 l G h0 xx nw nk mhasKept nt mtaped nr mrowMany mroundOf mroundFrom mouts nm mfromHour mtoHour ns mfrom mto msort misFault mdeep mcoded mlines nl nc nF np ntr nb mbestCost nso nsi nit nsh nsf nss nrc jr 6 mnumber mwhose msize misParted fnrc (by omega) (by omega)) si_X12_357 [0, 1] [] rfl rfl (by decide) rfl (by decide) (by decide) rfl rfl rfl rfl rfl (Nat.le_of_ble_eq_true rfl) ⟨Nat.le_of_ble_eq_true rfl, Nat.le_of_ble_eq_true rfl⟩ ⟨Nat.le_of_ble_eq_true rfl, Nat.le_of_ble_eq_true rfl⟩ dX12_dealt_7 (fun r6108 u6109 H locs hr6108 hP hD hS => ?_)
    obtain ⟨jr16110, ip16111, gtrc6112⟩ := u6109
    try dsimp only at hr6108
    have hP : va_P G.1 vwCl [(h0, .inr (12, [.ref nw, .ref nk, .int mhasKept, .ref nt, .int mtaped, .ref nr, .int mrowMany, .int mroundOf, .int mroundFrom, .int mouts, .ref nm, .int mfromHour, .int mtoHour, .ref ns, .int mfrom, .int mto, .int msort, .int misFault, .int mdeep, .int mcoded, .int mlines, .ref nl, .ref nc, .ref nF, .ref np, .ref ntr, .ref nb, .int mbestCost, .ref nso, .ref nsi, .ref nit, .ref nsh, .ref nsf, .ref nss, .ref nrc, .int (nI jr16110), .int 6, .int mnumber, .int mwhose, .int msize, .int ip16111])), (nrc, .inl (G.2.1, 30, .inl gtrc6112))] H := hP
    have hD : va_D A [(h0, .inr (12, [.ref nw, .ref nk, .int mhasKept, .ref nt, .int mtaped, .ref nr, .int mrowMany, .int mroundOf, .int mroundFrom, .int mouts, .ref nm, .int mfromHour, .int mtoHour, .ref ns, .int mfrom, .int mto, .int msort, .int misFault, .int mdeep, .int mcoded, .int mlines, .ref nl, .ref nc, .ref nF, .ref np, .ref ntr, .ref nb, .int mbestCost, .ref nso, .ref nsi, .ref nit, .ref nsh, .ref nsf, .ref nss, .ref nrc, .int (nI jr16110), .int 6, .int mnumber, .int mwhose, .int msize, .int ip16111])), (nrc, .inl (G.2.1, 30, .inl gtrc6112))] := hD
    obtain ⟨hr6108, w6113⟩ := hr6108
    exact RI (v := r6108) hC hP hD hS [0, 1] (jr16110, ip16111, gtrc6112) rfl rfl (by decide) (⟨trivial, by omega⟩) rfl dX12_dealt_10
set_option maxHeartbeats 4000000 in
set_option maxRecDepth 100000 in
theorem m_body01 (l : Launch) (G : GG) (h0 : Nat) (xx : Int32) (nw : Nat) (nk : Nat) (mhasKept : Int32) (nt : Nat) (mtaped : Int32) (nr : Nat) (mrowMany : Int32) (mroundOf : Int32) (mroundFrom : Int32) (mouts : Int32) (nm : Nat) (mfromHour : Int32) (mtoHour : Int32) (ns : Nat) (mfrom : Int32) (mto : Int32) (msort : Int32) (misFault : Int32) (mdeep : Int32) (mcoded : Int32) (mlines : Int32) (nl : Nat) (nc : Nat) (nF : Nat) (np : Nat) (ntr : Nat) (nb : Nat) (mbestCost : Int32) (nso : Nat) (nsi : Nat) (nit : Nat) (nsh : Nat) (nsf : Nat) (nss : Nat) (nrc : Nat) (jr : Nat) (jd : Nat) (mnumber : Int32) (mwhose : Int32) (msize : Int32) (misParted : Int32) (fnrc : Nat → Int32) (hjr : jr ≤ 30) (hjd : jd < 7) : MI l G yX12_body cX12_body 6 (some .int) 15 0 0 [.ref h0, .int 0, .int 1, .int xx] [(h0, .inr (12, [.ref nw, .ref nk, .int mhasKept, .ref nt, .int mtaped, .ref nr, .int mrowMany, .int mroundOf, .int mroundFrom, .int mouts, .ref nm, .int mfromHour, .int mtoHour, .ref ns, .int mfrom, .int mto, .int msort, .int misFault, .int mdeep, .int mcoded, .int mlines, .ref nl, .ref nc, .ref nF, .ref np, .ref ntr, .ref nb, .int mbestCost, .ref nso, .ref nsi, .ref nit, .ref nsh, .ref nsf, .ref nss, .ref nrc, .int (nI jr), .int (nI jd), .int mnumber, .int mwhose, .int msize, .int misParted])), (nrc, .inl (G.2.1, 30, .inl fnrc))] (fun (r : Int32) (u : Nat × Int32 × (Nat → Int32)) => (True) ∧ (u.1 ≤ 30)) (fun u : Nat × Int32 × (Nat → Int32) => [(h0, .inr (12, [.ref nw, .ref nk, .int mhasKept, .ref nt, .int mtaped, .ref nr, .int mrowMany, .int mroundOf, .int mroundFrom, .int mouts, .ref nm, .int mfromHour, .int mtoHour, .ref ns, .int mfrom, .int mto, .int msort, .int misFault, .int mdeep, .int mcoded, .int mlines, .ref nl, .ref nc, .ref nF, .ref np, .ref ntr, .ref nb, .int mbestCost, .ref nso, .ref nsi, .ref nit, .ref nsh, .ref nsf, .ref nss, .ref nrc, .int (nI u.1), .int (nI jd), .int mnumber, .int mwhose, .int msize, .int u.2.1])), (nrc, .inl (G.2.1, 30, .inl u.2.2))]) := by
  refine MI.start (by decide +kernel) (Nat.le_of_ble_eq_true rfl) ?_
  intro p e s m below meth c A ls hC hK hP hD hS hA hl
  have hl : lv_has ls 6 [(0, .ref h0), (1, .int 0), (2, .int 1), (3, .int xx)] := hl
  obtain ⟨hx, hb, hr, hml, hB, hown, hlocks, hnm⟩ := id hC
  refine lv_iconst (v := 4) hx hb dX12_body_0 (by decide) ?_
  refine lv_iload_n hx hb dX12_body_1 rfl (lv_at hl 1 rfl) ?_
  refine lv_imul hx hb dX12_body_2 ?_
  refine eqi (x1 := 0) (by decide) ?_
  refine lv_iload_n hx hb dX12_body_3 rfl (lv_at hl 2 rfl) ?_
  refine lv_iadd hx hb dX12_body_4 ?_
  refine eqi (x1 := 1) (by decide) ?_
  refine lv_tableIn (tgt := 125) hx hb dX12_body_5 (by decide) (by decide) rfl (by decide) ?_
  refine lv_aload_n hx hb dX12_body_125 rfl (lv_at hl 0 rfl) ?_
  refine lv_bipush (v := 11) hx hb dX12_body_126 (by decide) ?_
  refine vV (wr := []) hC hK hl hP hD hS hA (m_began l G h0 11 nw nk mhasKept nt mtaped nr mrowMany mroundOf mroundFrom mouts nm mfromHour mtoHour ns mfrom mto msort misFault mdeep mcoded mlines nl nc nF np ntr nb mbestCost nso nsi nit nsh nsf nss nrc jr (nI jd) mnumber mwhose msize misParted fnrc (by omega)) si_X12_366 [0, 1] [] rfl rfl (by decide) rfl (by decide) (by decide) rfl rfl rfl rfl rfl (Nat.le_of_ble_eq_true rfl) ⟨Nat.le_of_ble_eq_true rfl, Nat.le_of_ble_eq_true rfl⟩ ⟨Nat.le_of_ble_eq_true rfl, Nat.le_of_ble_eq_true rfl⟩ dX12_body_128 (fun u6115 H locs hr6114 hP hD hS => ?_)
  obtain ⟨jr16116, gtrc6117⟩ := u6115
  try dsimp only at hr6114
  have hP : va_P G.1 vwCl [(h0, .inr (12, [.ref nw, .ref nk, .int mhasKept, .ref nt, .int mtaped, .ref nr, .int mrowMany, .int mroundOf, .int mroundFrom, .int mouts, .ref nm, .int mfromHour, .int mtoHour, .ref ns, .int mfrom, .int mto, .int msort, .int misFault, .int mdeep, .int mcoded, .int mlines, .ref nl, .ref nc, .ref nF, .ref np, .ref ntr, .ref nb, .int mbestCost, .ref nso, .ref nsi, .ref nit, .ref nsh, .ref nsf, .ref nss, .ref nrc, .int (nI jr16116), .int (nI jd), .int mnumber, .int mwhose, .int msize, .int misParted])), (nrc, .inl (G.2.1, 30, .inl gtrc6117))] H := hP
  have hD : va_D A [(h0, .inr (12, [.ref nw, .ref nk, .int mhasKept, .ref nt, .int mtaped, .ref nr, .int mrowMany, .int mroundOf, .int mroundFrom, .int mouts, .ref nm, .int mfromHour, .int mtoHour, .ref ns, .int mfrom, .int mto, .int msort, .int misFault, .int mdeep, .int mcoded, .int mlines, .ref nl, .ref nc, .ref nF, .ref np, .ref ntr, .ref nb, .int mbestCost, .ref nso, .ref nsi, .ref nit, .ref nsh, .ref nsf, .ref nss, .ref nrc, .int (nI jr16116), .int (nI jd), .int mnumber, .int mwhose, .int msize, .int misParted])), (nrc, .inl (G.2.1, 30, .inl gtrc6117))] := hD
  have w6118 := hr6114
  refine lv_aload_n hx hb dX12_body_131 rfl (lv_at hl 0 rfl) ?_
  refine lv_iconst (v := 0) hx hb dX12_body_132 (by decide) ?_
  refine lv_iload_n hx hb dX12_body_133 rfl (lv_at hl 3 rfl) ?_
  refine iV (wr := []) hC hK hl hP hD hS hA (m_dealt0 l G h0 xx nw nk mhasKept nt mtaped nr mrowMany mroundOf mroundFrom mouts nm mfromHour mtoHour ns mfrom mto msort misFault mdeep mcoded mlines nl nc nF np ntr nb mbestCost nso nsi nit nsh nsf nss nrc jr16116 jd mnumber mwhose msize misParted gtrc6117 (by omega) (by omega)) si_X12_372 [0, 1] [] rfl rfl (by decide) rfl (by decide) (by decide) rfl rfl rfl rfl rfl (Nat.le_of_ble_eq_true rfl) ⟨Nat.le_of_ble_eq_true rfl, Nat.le_of_ble_eq_true rfl⟩ ⟨Nat.le_of_ble_eq_true rfl, Nat.le_of_ble_eq_true rfl⟩ dX12_body_134 (fun r6119 u6120 H locs hr6119 hP hD hS => ?_)
  obtain ⟨jr16121, ip16122, gtrc6123⟩ := u6120
  try dsimp only at hr6119
  have hP : va_P G.1 vwCl [(h0, .inr (12, [.ref nw, .ref nk, .int mhasKept, .ref nt, .int mtaped, .ref nr, .int mrowMany, .int mroundOf, .int mroundFrom, .int mouts, .ref nm, .int mfromHour, .int mtoHour, .ref ns, .int mfrom, .int mto, .int msort, .int misFault, .int mdeep, .int mcoded, .int mlines, .ref nl, .ref nc, .ref nF, .ref np, .ref ntr, .ref nb, .int mbestCost, .ref nso, .ref nsi, .ref nit, .ref nsh, .ref nsf, .ref nss, .ref nrc, .int (nI jr16121), .int (nI jd), .int mnumber, .int mwhose, .int msize, .int ip16122])), (nrc, .inl (G.2.1, 30, .inl gtrc6123))] H := hP
  have hD : va_D A [(h0, .inr (12, [.ref nw, .ref nk, .int mhasKept, .ref nt, .int mtaped, .ref nr, .int mrowMany, .int mroundOf, .int mroundFrom, .int mouts, .ref nm, .int mfromHour, .int mtoHour, .ref ns, .int mfrom, .int mto, .int msort, .int misFault, .int mdeep, .int mcoded, .int mlines, .ref nl, .ref nc, .ref nF, .ref np, .ref ntr, .ref nb, .int mbestCost, .ref nso, .ref nsi, .ref nit, .ref nsh, .ref nsf, .ref nss, .ref nrc, .int (nI jr16121), .int (nI jd), .int mnumber, .int mwhose, .int msize, .int ip16122])), (nrc, .inl (G.2.1, 30, .inl gtrc6123))] := hD
  obtain ⟨hr6119, w6124⟩ := hr6119
  refine lv_iconst (v := 2) hx hb dX12_body_137 (by decide) ?_
  refine lv_imul hx hb dX12_body_138 ?_
  exact RI (v := r6119 * 2) hC hP hD hS [0, 1] (jr16121, ip16122, gtrc6123) rfl rfl (by decide) (⟨trivial, by omega⟩) rfl dX12_body_139
set_option maxHeartbeats 4000000 in
set_option maxRecDepth 100000 in
theorem m_from01 (l : Launch) (G : GG) (h0 : Nat) (xx : Int32) (nw : Nat) (nk : Nat) (mhasKept : Int32) (nt : Nat) (mtaped : Int32) (nr : Nat) (mrowMany : Int32) (mroundOf : Int32) (mroundFrom : Int32) (mouts : Int32) (nm : Nat) (mfromHour : Int32) (mtoHour : Int32) (ns : Nat) (mfrom : Int32) (mto : Int32) (msort : Int32) (misFault : Int32) (mdeep : Int32) (mcoded : Int32) (mlines : Int32) (nl : Nat) (nc : Nat) (nF : Nat) (np : Nat) (ntr : Nat) (nb : Nat) (mbestCost : Int32) (nso : Nat) (nsi : Nat) (nit : Nat) (nsh : Nat) (nsf : Nat) (nss : Nat) (nrc : Nat) (jr : Nat) (jd : Nat) (mnumber : Int32) (mwhose : Int32) (msize : Int32) (misParted : Int32) (fnrc : Nat → Int32) (hjr : jr ≤ 30) (hjd : jd < 7) : MI l G yX12_bodyFrom cX12_bodyFrom 5 (some .int) 16 0 0 [.ref h0, .int 0, .int 1, .int xx] [(h0, .inr (12, [.ref nw, .ref nk, .int mhasKept, .ref nt, .int mtaped, .ref nr, .int mrowMany, .int mroundOf, .int mroundFrom, .int mouts, .ref nm, .int mfromHour, .int mtoHour, .ref ns, .int mfrom, .int mto, .int msort, .int misFault, .int mdeep, .int mcoded, .int mlines, .ref nl, .ref nc, .ref nF, .ref np, .ref ntr, .ref nb, .int mbestCost, .ref nso, .ref nsi, .ref nit, .ref nsh, .ref nsf, .ref nss, .ref nrc, .int (nI jr), .int (nI jd), .int mnumber, .int mwhose, .int msize, .int misParted])), (nrc, .inl (G.2.1, 30, .inl fnrc))] (fun (r : Int32) (u : Nat × Int32 × (Nat → Int32)) => (True) ∧ (u.1 ≤ 30)) (fun u : Nat × Int32 × (Nat → Int32) => [(h0, .inr (12, [.ref nw, .ref nk, .int mhasKept, .ref nt, .int mtaped, .ref nr, .int mrowMany, .int mroundOf, .int mroundFrom, .int mouts, .ref nm, .int mfromHour, .int mtoHour, .ref ns, .int mfrom, .int mto, .int msort, .int misFault, .int mdeep, .int mcoded, .int mlines, .ref nl, .ref nc, .ref nF, .ref np, .ref ntr, .ref nb, .int mbestCost, .ref nso, .ref nsi, .ref nit, .ref nsh, .ref nsf, .ref nss, .ref nrc, .int (nI u.1), .int (nI jd), .int mnumber, .int mwhose, .int msize, .int u.2.1])), (nrc, .inl (G.2.1, 30, .inl u.2.2))]) := by
  refine MI.start (by decide +kernel) (Nat.le_of_ble_eq_true rfl) ?_
  intro p e s m below meth c A ls hC hK hP hD hS hA hl
  have hl : lv_has ls 5 [(0, .ref h0), (1, .int 0), (2, .int 1), (3, .int xx)] := hl
  obtain ⟨hx, hb, hr, hml, hB, hown, hlocks, hnm⟩ := id hC
  refine lv_iload_n hx hb dX12_bodyFrom_0 rfl (lv_at hl 1 rfl) ?_
  refine lv_istore (lv' := [(4, .int 0), (0, .ref h0), (1, .int 0), (2, .int 1), (3, .int xx)]) hx hb dX12_bodyFrom_1 hl (by decide) rfl (fun ls hl => ?_)
  refine lv_iload hx hb dX12_bodyFrom_3 (lv_at hl 0 rfl) ?_
  refine lv_iload_n hx hb dX12_bodyFrom_5 rfl (lv_at hl 3 rfl) ?_
  refine pS hC hK hl (m_hasOwn01 l G) si_X12_360 rfl rfl (Nat.le_of_ble_eq_true rfl) ⟨Nat.le_of_ble_eq_true rfl, Nat.le_of_ble_eq_true rfl⟩ ⟨by first | exact Nat.le_of_ble_eq_true rfl | exact Nat.zero_le _, by first | exact Nat.le_of_ble_eq_true rfl | exact Nat.zero_le _⟩ dX12_bodyFrom_6 (fun r6125 hr6125 => ?_)
  obtain rfl := hr6125
  refine lv_if_ne (tgt := 22) hx hb dX12_bodyFrom_9 (by decide) (fun _ => ?_) (fun c9 => absurd c9 (by decide))
  refine lv_aload_n hx hb dX12_bodyFrom_22 rfl (lv_at hl 1 rfl) ?_
  refine lv_iload hx hb dX12_bodyFrom_23 (lv_at hl 0 rfl) ?_
  refine lv_iload_n hx hb dX12_bodyFrom_25 rfl (lv_at hl 3 rfl) ?_
  refine lv_iload_n hx hb dX12_bodyFrom_26 rfl (lv_at hl 4 rfl) ?_
  refine iV (wr := []) hC hK hl hP hD hS hA (m_body01 l G h0 xx nw nk mhasKept nt mtaped nr mrowMany mroundOf mroundFrom mouts nm mfromHour mtoHour ns mfrom mto msort misFault mdeep mcoded mlines nl nc nF np ntr nb mbestCost nso nsi nit nsh nsf nss nrc jr jd mnumber mwhose msize misParted fnrc (by omega) (by omega)) si_X12_363 [0, 1] [] rfl rfl (by decide) rfl (by decide) (by decide) rfl rfl rfl rfl rfl (Nat.le_of_ble_eq_true rfl) ⟨Nat.le_of_ble_eq_true rfl, Nat.le_of_ble_eq_true rfl⟩ ⟨Nat.le_of_ble_eq_true rfl, Nat.le_of_ble_eq_true rfl⟩ dX12_bodyFrom_27 (fun r6127 u6128 H locs hr6127 hP hD hS => ?_)
  obtain ⟨jr16129, ip16130, gtrc6131⟩ := u6128
  try dsimp only at hr6127
  have hP : va_P G.1 vwCl [(h0, .inr (12, [.ref nw, .ref nk, .int mhasKept, .ref nt, .int mtaped, .ref nr, .int mrowMany, .int mroundOf, .int mroundFrom, .int mouts, .ref nm, .int mfromHour, .int mtoHour, .ref ns, .int mfrom, .int mto, .int msort, .int misFault, .int mdeep, .int mcoded, .int mlines, .ref nl, .ref nc, .ref nF, .ref np, .ref ntr, .ref nb, .int mbestCost, .ref nso, .ref nsi, .ref nit, .ref nsh, .ref nsf, .ref nss, .ref nrc, .int (nI jr16129), .int (nI jd), .int mnumber, .int mwhose, .int msize, .int ip16130])), (nrc, .inl (G.2.1, 30, .inl gtrc6131))] H := hP
  have hD : va_D A [(h0, .inr (12, [.ref nw, .ref nk, .int mhasKept, .ref nt, .int mtaped, .ref nr, .int mrowMany, .int mroundOf, .int mroundFrom, .int mouts, .ref nm, .int mfromHour, .int mtoHour, .ref ns, .int mfrom, .int mto, .int msort, .int misFault, .int mdeep, .int mcoded, .int mlines, .ref nl, .ref nc, .ref nF, .ref np, .ref ntr, .ref nb, .int mbestCost, .ref nso, .ref nsi, .ref nit, .ref nsh, .ref nsf, .ref nss, .ref nrc, .int (nI jr16129), .int (nI jd), .int mnumber, .int mwhose, .int msize, .int ip16130])), (nrc, .inl (G.2.1, 30, .inl gtrc6131))] := hD
  obtain ⟨hr6127, w6132⟩ := hr6127
  exact RI (v := r6127) hC hP hD hS [0, 1] (jr16129, ip16130, gtrc6131) rfl rfl (by decide) (⟨trivial, by omega⟩) rfl dX12_bodyFrom_30
set_option maxHeartbeats 4000000 in
set_option maxRecDepth 100000 in
theorem m_body11 (l : Launch) (G : GG) (h0 : Nat) (xx : Int32) (nw : Nat) (nk : Nat) (mhasKept : Int32) (nt : Nat) (mtaped : Int32) (nr : Nat) (mrowMany : Int32) (mroundOf : Int32) (mroundFrom : Int32) (mouts : Int32) (nm : Nat) (mfromHour : Int32) (mtoHour : Int32) (ns : Nat) (mfrom : Int32) (mto : Int32) (msort : Int32) (misFault : Int32) (mdeep : Int32) (mcoded : Int32) (mlines : Int32) (nl : Nat) (nc : Nat) (nF : Nat) (np : Nat) (ntr : Nat) (nb : Nat) (mbestCost : Int32) (nso : Nat) (nsi : Nat) (nit : Nat) (nsh : Nat) (nsf : Nat) (nss : Nat) (nrc : Nat) (jr : Nat) (jd : Nat) (mnumber : Int32) (mwhose : Int32) (msize : Int32) (misParted : Int32) (fnrc : Nat → Int32) (hjr : jr ≤ 30) (hjd : jd < 7) : MI l G yX12_body cX12_body 6 (some .int) 17 0 0 [.ref h0, .int 1, .int 1, .int xx] [(h0, .inr (12, [.ref nw, .ref nk, .int mhasKept, .ref nt, .int mtaped, .ref nr, .int mrowMany, .int mroundOf, .int mroundFrom, .int mouts, .ref nm, .int mfromHour, .int mtoHour, .ref ns, .int mfrom, .int mto, .int msort, .int misFault, .int mdeep, .int mcoded, .int mlines, .ref nl, .ref nc, .ref nF, .ref np, .ref ntr, .ref nb, .int mbestCost, .ref nso, .ref nsi, .ref nit, .ref nsh, .ref nsf, .ref nss, .ref nrc, .int (nI jr), .int (nI jd), .int mnumber, .int mwhose, .int msize, .int misParted])), (nrc, .inl (G.2.1, 30, .inl fnrc))] (fun (r : Int32) (u : Nat × Int32 × (Nat → Int32)) => (True) ∧ (u.1 ≤ 30)) (fun u : Nat × Int32 × (Nat → Int32) => [(h0, .inr (12, [.ref nw, .ref nk, .int mhasKept, .ref nt, .int mtaped, .ref nr, .int mrowMany, .int mroundOf, .int mroundFrom, .int mouts, .ref nm, .int mfromHour, .int mtoHour, .ref ns, .int mfrom, .int mto, .int msort, .int misFault, .int mdeep, .int mcoded, .int mlines, .ref nl, .ref nc, .ref nF, .ref np, .ref ntr, .ref nb, .int mbestCost, .ref nso, .ref nsi, .ref nit, .ref nsh, .ref nsf, .ref nss, .ref nrc, .int (nI u.1), .int (nI jd), .int mnumber, .int mwhose, .int msize, .int u.2.1])), (nrc, .inl (G.2.1, 30, .inl u.2.2))]) := by
  refine MI.start (by decide +kernel) (Nat.le_of_ble_eq_true rfl) ?_
  intro p e s m below meth c A ls hC hK hP hD hS hA hl
  have hl : lv_has ls 6 [(0, .ref h0), (1, .int 1), (2, .int 1), (3, .int xx)] := hl
  obtain ⟨hx, hb, hr, hml, hB, hown, hlocks, hnm⟩ := id hC
  refine lv_iconst (v := 4) hx hb dX12_body_0 (by decide) ?_
  refine lv_iload_n hx hb dX12_body_1 rfl (lv_at hl 1 rfl) ?_
  refine lv_imul hx hb dX12_body_2 ?_
  refine eqi (x1 := 4) (by decide) ?_
  refine lv_iload_n hx hb dX12_body_3 rfl (lv_at hl 2 rfl) ?_
  refine lv_iadd hx hb dX12_body_4 ?_
  refine eqi (x1 := 5) (by decide) ?_
  refine lv_tableIn (tgt := 207) hx hb dX12_body_5 (by decide) (by decide) rfl (by decide) ?_
  refine lv_aload_n hx hb dX12_body_207 rfl (lv_at hl 0 rfl) ?_
  refine lv_bipush (v := 20) hx hb dX12_body_208 (by decide) ?_
  refine vV (wr := []) hC hK hl hP hD hS hA (m_began l G h0 20 nw nk mhasKept nt mtaped nr mrowMany mroundOf mroundFrom mouts nm mfromHour mtoHour ns mfrom mto msort misFault mdeep mcoded mlines nl nc nF np ntr nb mbestCost nso nsi nit nsh nsf nss nrc jr (nI jd) mnumber mwhose msize misParted fnrc (by omega)) si_X12_366 [0, 1] [] rfl rfl (by decide) rfl (by decide) (by decide) rfl rfl rfl rfl rfl (Nat.le_of_ble_eq_true rfl) ⟨Nat.le_of_ble_eq_true rfl, Nat.le_of_ble_eq_true rfl⟩ ⟨Nat.le_of_ble_eq_true rfl, Nat.le_of_ble_eq_true rfl⟩ dX12_body_210 (fun u6134 H locs hr6133 hP hD hS => ?_)
  obtain ⟨jr16135, gtrc6136⟩ := u6134
  try dsimp only at hr6133
  have hP : va_P G.1 vwCl [(h0, .inr (12, [.ref nw, .ref nk, .int mhasKept, .ref nt, .int mtaped, .ref nr, .int mrowMany, .int mroundOf, .int mroundFrom, .int mouts, .ref nm, .int mfromHour, .int mtoHour, .ref ns, .int mfrom, .int mto, .int msort, .int misFault, .int mdeep, .int mcoded, .int mlines, .ref nl, .ref nc, .ref nF, .ref np, .ref ntr, .ref nb, .int mbestCost, .ref nso, .ref nsi, .ref nit, .ref nsh, .ref nsf, .ref nss, .ref nrc, .int (nI jr16135), .int (nI jd), .int mnumber, .int mwhose, .int msize, .int misParted])), (nrc, .inl (G.2.1, 30, .inl gtrc6136))] H := hP
  have hD : va_D A [(h0, .inr (12, [.ref nw, .ref nk, .int mhasKept, .ref nt, .int mtaped, .ref nr, .int mrowMany, .int mroundOf, .int mroundFrom, .int mouts, .ref nm, .int mfromHour, .int mtoHour, .ref ns, .int mfrom, .int mto, .int msort, .int misFault, .int mdeep, .int mcoded, .int mlines, .ref nl, .ref nc, .ref nF, .ref np, .ref ntr, .ref nb, .int mbestCost, .ref nso, .ref nsi, .ref nit, .ref nsh, .ref nsf, .ref nss, .ref nrc, .int (nI jr16135), .int (nI jd), .int mnumber, .int mwhose, .int msize, .int misParted])), (nrc, .inl (G.2.1, 30, .inl gtrc6136))] := hD
  have w6137 := hr6133
  refine lv_aload_n hx hb dX12_body_213 rfl (lv_at hl 0 rfl) ?_
  refine lv_iconst (v := 0) hx hb dX12_body_214 (by decide) ?_
  refine lv_iconst (v := 1) hx hb dX12_body_215 (by decide) ?_
  refine lv_iload_n hx hb dX12_body_216 rfl (lv_at hl 3 rfl) ?_
  refine iV (wr := []) hC hK hl hP hD hS hA (m_from01 l G h0 xx nw nk mhasKept nt mtaped nr mrowMany mroundOf mroundFrom mouts nm mfromHour mtoHour ns mfrom mto msort misFault mdeep mcoded mlines nl nc nF np ntr nb mbestCost nso nsi nit nsh nsf nss nrc jr16135 jd mnumber mwhose msize misParted gtrc6136 (by omega) (by omega)) si_X12_357 [0, 1] [] rfl rfl (by decide) rfl (by decide) (by decide) rfl rfl rfl rfl rfl (Nat.le_of_ble_eq_true rfl) ⟨Nat.le_of_ble_eq_true rfl, Nat.le_of_ble_eq_true rfl⟩ ⟨Nat.le_of_ble_eq_true rfl, Nat.le_of_ble_eq_true rfl⟩ dX12_body_217 (fun r6138 u6139 H locs hr6138 hP hD hS => ?_)
  obtain ⟨jr16140, ip16141, gtrc6142⟩ := u6139
  try dsimp only at hr6138
  have hP : va_P G.1 vwCl [(h0, .inr (12, [.ref nw, .ref nk, .int mhasKept, .ref nt, .int mtaped, .ref nr, .int mrowMany, .int mroundOf, .int mroundFrom, .int mouts, .ref nm, .int mfromHour, .int mtoHour, .ref ns, .int mfrom, .int mto, .int msort, .int misFault, .int mdeep, .int mcoded, .int mlines, .ref nl, .ref nc, .ref nF, .ref np, .ref ntr, .ref nb, .int mbestCost, .ref nso, .ref nsi, .ref nit, .ref nsh, .ref nsf, .ref nss, .ref nrc, .int (nI jr16140), .int (nI jd), .int mnumber, .int mwhose, .int msize, .int ip16141])), (nrc, .inl (G.2.1, 30, .inl gtrc6142))] H := hP
  have hD : va_D A [(h0, .inr (12, [.ref nw, .ref nk, .int mhasKept, .ref nt, .int mtaped, .ref nr, .int mrowMany, .int mroundOf, .int mroundFrom, .int mouts, .ref nm, .int mfromHour, .int mtoHour, .ref ns, .int mfrom, .int mto, .int msort, .int misFault, .int mdeep, .int mcoded, .int mlines, .ref nl, .ref nc, .ref nF, .ref np, .ref ntr, .ref nb, .int mbestCost, .ref nso, .ref nsi, .ref nit, .ref nsh, .ref nsf, .ref nss, .ref nrc, .int (nI jr16140), .int (nI jd), .int mnumber, .int mwhose, .int msize, .int ip16141])), (nrc, .inl (G.2.1, 30, .inl gtrc6142))] := hD
  obtain ⟨hr6138, w6143⟩ := hr6138
  refine lv_aload_n hx hb dX12_body_220 rfl (lv_at hl 0 rfl) ?_
  refine gf_X12_378 hC rfl hK hP 0 rfl rfl dX12_body_221 ?_
  refine lv_ixor hx hb dX12_body_224 ?_
  exact RI (v := r6138 ^^^ mnumber) hC hP hD hS [0, 1] (jr16140, ip16141, gtrc6142) rfl rfl (by decide) (⟨trivial, by omega⟩) rfl dX12_body_225
set_option maxHeartbeats 4000000 in
set_option maxRecDepth 100000 in
theorem m_from11 (l : Launch) (G : GG) (h0 : Nat) (xx : Int32) (nw : Nat) (nk : Nat) (mhasKept : Int32) (nt : Nat) (mtaped : Int32) (nr : Nat) (mrowMany : Int32) (mroundOf : Int32) (mroundFrom : Int32) (mouts : Int32) (nm : Nat) (mfromHour : Int32) (mtoHour : Int32) (ns : Nat) (mfrom : Int32) (mto : Int32) (msort : Int32) (misFault : Int32) (mdeep : Int32) (mcoded : Int32) (mlines : Int32) (nl : Nat) (nc : Nat) (nF : Nat) (np : Nat) (ntr : Nat) (nb : Nat) (mbestCost : Int32) (nso : Nat) (nsi : Nat) (nit : Nat) (nsh : Nat) (nsf : Nat) (nss : Nat) (nrc : Nat) (jr : Nat) (jd : Nat) (mnumber : Int32) (mwhose : Int32) (msize : Int32) (misParted : Int32) (fnrc : Nat → Int32) (hjr : jr ≤ 30) (hjd : jd < 7) : MI l G yX12_bodyFrom cX12_bodyFrom 5 (some .int) 18 0 0 [.ref h0, .int 1, .int 1, .int xx] [(h0, .inr (12, [.ref nw, .ref nk, .int mhasKept, .ref nt, .int mtaped, .ref nr, .int mrowMany, .int mroundOf, .int mroundFrom, .int mouts, .ref nm, .int mfromHour, .int mtoHour, .ref ns, .int mfrom, .int mto, .int msort, .int misFault, .int mdeep, .int mcoded, .int mlines, .ref nl, .ref nc, .ref nF, .ref np, .ref ntr, .ref nb, .int mbestCost, .ref nso, .ref nsi, .ref nit, .ref nsh, .ref nsf, .ref nss, .ref nrc, .int (nI jr), .int (nI jd), .int mnumber, .int mwhose, .int msize, .int misParted])), (nrc, .inl (G.2.1, 30, .inl fnrc))] (fun (r : Int32) (u : Nat × Int32 × (Nat → Int32)) => (True) ∧ (u.1 ≤ 30)) (fun u : Nat × Int32 × (Nat → Int32) => [(h0, .inr (12, [.ref nw, .ref nk, .int mhasKept, .ref nt, .int mtaped, .ref nr, .int mrowMany, .int mroundOf, .int mroundFrom, .int mouts, .ref nm, .int mfromHour, .int mtoHour, .ref ns, .int mfrom, .int mto, .int msort, .int misFault, .int mdeep, .int mcoded, .int mlines, .ref nl, .ref nc, .ref nF, .ref np, .ref ntr, .ref nb, .int mbestCost, .ref nso, .ref nsi, .ref nit, .ref nsh, .ref nsf, .ref nss, .ref nrc, .int (nI u.1), .int (nI jd), .int mnumber, .int mwhose, .int msize, .int u.2.1])), (nrc, .inl (G.2.1, 30, .inl u.2.2))]) := by
  refine MI.start (by decide +kernel) (Nat.le_of_ble_eq_true rfl) ?_
  intro p e s m below meth c A ls hC hK hP hD hS hA hl
  have hl : lv_has ls 5 [(0, .ref h0), (1, .int 1), (2, .int 1), (3, .int xx)] := hl
  obtain ⟨hx, hb, hr, hml, hB, hown, hlocks, hnm⟩ := id hC
  refine lv_iload_n hx hb dX12_bodyFrom_0 rfl (lv_at hl 1 rfl) ?_
  refine lv_istore (lv' := [(4, .int 1), (0, .ref h0), (1, .int 1), (2, .int 1), (3, .int xx)]) hx hb dX12_bodyFrom_1 hl (by decide) rfl (fun ls hl => ?_)
  refine lv_iload hx hb dX12_bodyFrom_3 (lv_at hl 0 rfl) ?_
  refine lv_iload_n hx hb dX12_bodyFrom_5 rfl (lv_at hl 3 rfl) ?_
  refine pS hC hK hl (m_hasOwn11 l G) si_X12_360 rfl rfl (Nat.le_of_ble_eq_true rfl) ⟨Nat.le_of_ble_eq_true rfl, Nat.le_of_ble_eq_true rfl⟩ ⟨by first | exact Nat.le_of_ble_eq_true rfl | exact Nat.zero_le _, by first | exact Nat.le_of_ble_eq_true rfl | exact Nat.zero_le _⟩ dX12_bodyFrom_6 (fun r6144 hr6144 => ?_)
  obtain rfl := hr6144
  refine lv_if_ne (tgt := 22) hx hb dX12_bodyFrom_9 (by decide) (fun _ => ?_) (fun c9 => absurd c9 (by decide))
  refine lv_aload_n hx hb dX12_bodyFrom_22 rfl (lv_at hl 1 rfl) ?_
  refine lv_iload hx hb dX12_bodyFrom_23 (lv_at hl 0 rfl) ?_
  refine lv_iload_n hx hb dX12_bodyFrom_25 rfl (lv_at hl 3 rfl) ?_
  refine lv_iload_n hx hb dX12_bodyFrom_26 rfl (lv_at hl 4 rfl) ?_
  refine iV (wr := []) hC hK hl hP hD hS hA (m_body11 l G h0 xx nw nk mhasKept nt mtaped nr mrowMany mroundOf mroundFrom mouts nm mfromHour mtoHour ns mfrom mto msort misFault mdeep mcoded mlines nl nc nF np ntr nb mbestCost nso nsi nit nsh nsf nss nrc jr jd mnumber mwhose msize misParted fnrc (by omega) (by omega)) si_X12_363 [0, 1] [] rfl rfl (by decide) rfl (by decide) (by decide) rfl rfl rfl rfl rfl (Nat.le_of_ble_eq_true rfl) ⟨Nat.le_of_ble_eq_true rfl, Nat.le_of_ble_eq_true rfl⟩ ⟨Nat.le_of_ble_eq_true rfl, Nat.le_of_ble_eq_true rfl⟩ dX12_bodyFrom_27 (fun r6146 u6147 H locs hr6146 hP hD hS => ?_)
  obtain ⟨jr16148, ip16149, gtrc6150⟩ := u6147
  try dsimp only at hr6146
  have hP : va_P G.1 vwCl [(h0, .inr (12, [.ref nw, .ref nk, .int mhasKept, .ref nt, .int mtaped, .ref nr, .int mrowMany, .int mroundOf, .int mroundFrom, .int mouts, .ref nm, .int mfromHour, .int mtoHour, .ref ns, .int mfrom, .int mto, .int msort, .int misFault, .int mdeep, .int mcoded, .int mlines, .ref nl, .ref nc, .ref nF, .ref np, .ref ntr, .ref nb, .int mbestCost, .ref nso, .ref nsi, .ref nit, .ref nsh, .ref nsf, .ref nss, .ref nrc, .int (nI jr16148), .int (nI jd), .int mnumber, .int mwhose, .int msize, .int ip16149])), (nrc, .inl (G.2.1, 30, .inl gtrc6150))] H := hP
  have hD : va_D A [(h0, .inr (12, [.ref nw, .ref nk, .int mhasKept, .ref nt, .int mtaped, .ref nr, .int mrowMany, .int mroundOf, .int mroundFrom, .int mouts, .ref nm, .int mfromHour, .int mtoHour, .ref ns, .int mfrom, .int mto, .int msort, .int misFault, .int mdeep, .int mcoded, .int mlines, .ref nl, .ref nc, .ref nF, .ref np, .ref ntr, .ref nb, .int mbestCost, .ref nso, .ref nsi, .ref nit, .ref nsh, .ref nsf, .ref nss, .ref nrc, .int (nI jr16148), .int (nI jd), .int mnumber, .int mwhose, .int msize, .int ip16149])), (nrc, .inl (G.2.1, 30, .inl gtrc6150))] := hD
  obtain ⟨hr6146, w6151⟩ := hr6146
  exact RI (v := r6146) hC hP hD hS [0, 1] (jr16148, ip16149, gtrc6150) rfl rfl (by decide) (⟨trivial, by omega⟩) rfl dX12_bodyFrom_30
set_option maxHeartbeats 4000000 in
set_option maxRecDepth 100000 in
theorem m_body31 (l : Launch) (G : GG) (h0 : Nat) (xx : Int32) (nw : Nat) (nk : Nat) (mhasKept : Int32) (nt : Nat) (mtaped : Int32) (nr : Nat) (mrowMany : Int32) (mroundOf : Int32) (mroundFrom : Int32) (mouts : Int32) (nm : Nat) (mfromHour : Int32) (mtoHour : Int32) (ns : Nat) (mfrom : Int32) (mto : Int32) (msort : Int32) (misFault : Int32) (mdeep : Int32) (mcoded : Int32) (mlines : Int32) (nl : Nat) (nc : Nat) (nF : Nat) (np : Nat) (ntr : Nat) (nb : Nat) (mbestCost : Int32) (nso : Nat) (nsi : Nat) (nit : Nat) (nsh : Nat) (nsf : Nat) (nss : Nat) (nrc : Nat) (jr : Nat) (jd : Nat) (mnumber : Int32) (mwhose : Int32) (msize : Int32) (misParted : Int32) (fnrc : Nat → Int32) (hjr : jr ≤ 30) (hjd : jd < 7) : MI l G yX12_body cX12_body 6 (some .int) 19 0 0 [.ref h0, .int 3, .int 1, .int xx] [(h0, .inr (12, [.ref nw, .ref nk, .int mhasKept, .ref nt, .int mtaped, .ref nr, .int mrowMany, .int mroundOf, .int mroundFrom, .int mouts, .ref nm, .int mfromHour, .int mtoHour, .ref ns, .int mfrom, .int mto, .int msort, .int misFault, .int mdeep, .int mcoded, .int mlines, .ref nl, .ref nc, .ref nF, .ref np, .ref ntr, .ref nb, .int mbestCost, .ref nso, .ref nsi, .ref nit, .ref nsh, .ref nsf, .ref nss, .ref nrc, .int (nI jr), .int (nI jd), .int mnumber, .int mwhose, .int msize, .int misParted])), (nrc, .inl (G.2.1, 30, .inl fnrc))] (fun (r : Int32) (u : Nat × Int32 × (Nat → Int32)) => (True) ∧ (u.1 ≤ 30)) (fun u : Nat × Int32 × (Nat → Int32) => [(h0, .inr (12, [.ref nw, .ref nk, .int mhasKept, .ref nt, .int mtaped, .ref nr, .int mrowMany, .int mroundOf, .int mroundFrom, .int mouts, .ref nm, .int mfromHour, .int mtoHour, .ref ns, .int mfrom, .int mto, .int msort, .int misFault, .int mdeep, .int mcoded, .int mlines, .ref nl, .ref nc, .ref nF, .ref np, .ref ntr, .ref nb, .int mbestCost, .ref nso, .ref nsi, .ref nit, .ref nsh, .ref nsf, .ref nss, .ref nrc, .int (nI u.1), .int (nI jd), .int mnumber, .int mwhose, .int msize, .int u.2.1])), (nrc, .inl (G.2.1, 30, .inl u.2.2))]) := by
  refine MI.start (by decide +kernel) (Nat.le_of_ble_eq_true rfl) ?_
  intro p e s m below meth c A ls hC hK hP hD hS hA hl
  have hl : lv_has ls 6 [(0, .ref h0), (1, .int 3), (2, .int 1), (3, .int xx)] := hl
  obtain ⟨hx, hb, hr, hml, hB, hown, hlocks, hnm⟩ := id hC
  refine lv_iconst (v := 4) hx hb dX12_body_0 (by decide) ?_
  refine lv_iload_n hx hb dX12_body_1 rfl (lv_at hl 1 rfl) ?_
  refine lv_imul hx hb dX12_body_2 ?_
  refine eqi (x1 := 12) (by decide) ?_
  refine lv_iload_n hx hb dX12_body_3 rfl (lv_at hl 2 rfl) ?_
  refine lv_iadd hx hb dX12_body_4 ?_
  refine eqi (x1 := 13) (by decide) ?_
  refine lv_tableIn (tgt := 242) hx hb dX12_body_5 (by decide) (by decide) rfl (by decide) ?_
  refine lv_aload_n hx hb dX12_body_242 rfl (lv_at hl 0 rfl) ?_
  refine lv_bipush (v := 40) hx hb dX12_body_243 (by decide) ?_
  refine vV (wr := []) hC hK hl hP hD hS hA (m_began l G h0 40 nw nk mhasKept nt mtaped nr mrowMany mroundOf mroundFrom mouts nm mfromHour mtoHour ns mfrom mto msort misFault mdeep mcoded mlines nl nc nF np ntr nb mbestCost nso nsi nit nsh nsf nss nrc jr (nI jd) mnumber mwhose msize misParted fnrc (by omega)) si_X12_366 [0, 1] [] rfl rfl (by decide) rfl (by decide) (by decide) rfl rfl rfl rfl rfl (Nat.le_of_ble_eq_true rfl) ⟨Nat.le_of_ble_eq_true rfl, Nat.le_of_ble_eq_true rfl⟩ ⟨Nat.le_of_ble_eq_true rfl, Nat.le_of_ble_eq_true rfl⟩ dX12_body_245 (fun u6153 H locs hr6152 hP hD hS => ?_)
  obtain ⟨jr16154, gtrc6155⟩ := u6153
  try dsimp only at hr6152
  have hP : va_P G.1 vwCl [(h0, .inr (12, [.ref nw, .ref nk, .int mhasKept, .ref nt, .int mtaped, .ref nr, .int mrowMany, .int mroundOf, .int mroundFrom, .int mouts, .ref nm, .int mfromHour, .int mtoHour, .ref ns, .int mfrom, .int mto, .int msort, .int misFault, .int mdeep, .int mcoded, .int mlines, .ref nl, .ref nc, .ref nF, .ref np, .ref ntr, .ref nb, .int mbestCost, .ref nso, .ref nsi, .ref nit, .ref nsh, .ref nsf, .ref nss, .ref nrc, .int (nI jr16154), .int (nI jd), .int mnumber, .int mwhose, .int msize, .int misParted])), (nrc, .inl (G.2.1, 30, .inl gtrc6155))] H := hP
  have hD : va_D A [(h0, .inr (12, [.ref nw, .ref nk, .int mhasKept, .ref nt, .int mtaped, .ref nr, .int mrowMany, .int mroundOf, .int mroundFrom, .int mouts, .ref nm, .int mfromHour, .int mtoHour, .ref ns, .int mfrom, .int mto, .int msort, .int misFault, .int mdeep, .int mcoded, .int mlines, .ref nl, .ref nc, .ref nF, .ref np, .ref ntr, .ref nb, .int mbestCost, .ref nso, .ref nsi, .ref nit, .ref nsh, .ref nsf, .ref nss, .ref nrc, .int (nI jr16154), .int (nI jd), .int mnumber, .int mwhose, .int msize, .int misParted])), (nrc, .inl (G.2.1, 30, .inl gtrc6155))] := hD
  have w6156 := hr6152
  refine lv_iconst (v := 0) hx hb dX12_body_248 (by decide) ?_
  refine lv_aload_n hx hb dX12_body_249 rfl (lv_at hl 0 rfl) ?_
  refine lv_iconst (v := 1) hx hb dX12_body_250 (by decide) ?_
  refine lv_iconst (v := 1) hx hb dX12_body_251 (by decide) ?_
  refine lv_iload_n hx hb dX12_body_252 rfl (lv_at hl 3 rfl) ?_
  refine iV (wr := []) hC hK hl hP hD hS hA (m_from11 l G h0 xx nw nk mhasKept nt mtaped nr mrowMany mroundOf mroundFrom mouts nm mfromHour mtoHour ns mfrom mto msort misFault mdeep mcoded mlines nl nc nF np ntr nb mbestCost nso nsi nit nsh nsf nss nrc jr16154 jd mnumber mwhose msize misParted gtrc6155 (by omega) (by omega)) si_X12_357 [0, 1] [] rfl rfl (by decide) rfl (by decide) (by decide) rfl rfl rfl rfl rfl (Nat.le_of_ble_eq_true rfl) ⟨Nat.le_of_ble_eq_true rfl, Nat.le_of_ble_eq_true rfl⟩ ⟨Nat.le_of_ble_eq_true rfl, Nat.le_of_ble_eq_true rfl⟩ dX12_body_253 (fun r6157 u6158 H locs hr6157 hP hD hS => ?_)
  obtain ⟨jr16159, ip16160, gtrc6161⟩ := u6158
  try dsimp only at hr6157
  have hP : va_P G.1 vwCl [(h0, .inr (12, [.ref nw, .ref nk, .int mhasKept, .ref nt, .int mtaped, .ref nr, .int mrowMany, .int mroundOf, .int mroundFrom, .int mouts, .ref nm, .int mfromHour, .int mtoHour, .ref ns, .int mfrom, .int mto, .int msort, .int misFault, .int mdeep, .int mcoded, .int mlines, .ref nl, .ref nc, .ref nF, .ref np, .ref ntr, .ref nb, .int mbestCost, .ref nso, .ref nsi, .ref nit, .ref nsh, .ref nsf, .ref nss, .ref nrc, .int (nI jr16159), .int (nI jd), .int mnumber, .int mwhose, .int msize, .int ip16160])), (nrc, .inl (G.2.1, 30, .inl gtrc6161))] H := hP
  have hD : va_D A [(h0, .inr (12, [.ref nw, .ref nk, .int mhasKept, .ref nt, .int mtaped, .ref nr, .int mrowMany, .int mroundOf, .int mroundFrom, .int mouts, .ref nm, .int mfromHour, .int mtoHour, .ref ns, .int mfrom, .int mto, .int msort, .int misFault, .int mdeep, .int mcoded, .int mlines, .ref nl, .ref nc, .ref nF, .ref np, .ref ntr, .ref nb, .int mbestCost, .ref nso, .ref nsi, .ref nit, .ref nsh, .ref nsf, .ref nss, .ref nrc, .int (nI jr16159), .int (nI jd), .int mnumber, .int mwhose, .int msize, .int ip16160])), (nrc, .inl (G.2.1, 30, .inl gtrc6161))] := hD
  obtain ⟨hr6157, w6162⟩ := hr6157
  refine lv_isub hx hb dX12_body_256 ?_
  exact RI (v := 0 - r6157) hC hP hD hS [0, 1] (jr16159, ip16160, gtrc6161) rfl rfl (by decide) (⟨trivial, by omega⟩) rfl dX12_body_257
set_option maxHeartbeats 4000000 in
set_option maxRecDepth 100000 in
theorem m_from31 (l : Launch) (G : GG) (h0 : Nat) (xx : Int32) (nw : Nat) (nk : Nat) (mhasKept : Int32) (nt : Nat) (mtaped : Int32) (nr : Nat) (mrowMany : Int32) (mroundOf : Int32) (mroundFrom : Int32) (mouts : Int32) (nm : Nat) (mfromHour : Int32) (mtoHour : Int32) (ns : Nat) (mfrom : Int32) (mto : Int32) (msort : Int32) (misFault : Int32) (mdeep : Int32) (mcoded : Int32) (mlines : Int32) (nl : Nat) (nc : Nat) (nF : Nat) (np : Nat) (ntr : Nat) (nb : Nat) (mbestCost : Int32) (nso : Nat) (nsi : Nat) (nit : Nat) (nsh : Nat) (nsf : Nat) (nss : Nat) (nrc : Nat) (jr : Nat) (jd : Nat) (mnumber : Int32) (mwhose : Int32) (msize : Int32) (misParted : Int32) (fnrc : Nat → Int32) (hjr : jr ≤ 30) (hjd : jd < 7) : MI l G yX12_bodyFrom cX12_bodyFrom 5 (some .int) 20 0 0 [.ref h0, .int 3, .int 1, .int xx] [(h0, .inr (12, [.ref nw, .ref nk, .int mhasKept, .ref nt, .int mtaped, .ref nr, .int mrowMany, .int mroundOf, .int mroundFrom, .int mouts, .ref nm, .int mfromHour, .int mtoHour, .ref ns, .int mfrom, .int mto, .int msort, .int misFault, .int mdeep, .int mcoded, .int mlines, .ref nl, .ref nc, .ref nF, .ref np, .ref ntr, .ref nb, .int mbestCost, .ref nso, .ref nsi, .ref nit, .ref nsh, .ref nsf, .ref nss, .ref nrc, .int (nI jr), .int (nI jd), .int mnumber, .int mwhose, .int msize, .int misParted])), (nrc, .inl (G.2.1, 30, .inl fnrc))] (fun (r : Int32) (u : Nat × Int32 × (Nat → Int32)) => (True) ∧ (u.1 ≤ 30)) (fun u : Nat × Int32 × (Nat → Int32) => [(h0, .inr (12, [.ref nw, .ref nk, .int mhasKept, .ref nt, .int mtaped, .ref nr, .int mrowMany, .int mroundOf, .int mroundFrom, .int mouts, .ref nm, .int mfromHour, .int mtoHour, .ref ns, .int mfrom, .int mto, .int msort, .int misFault, .int mdeep, .int mcoded, .int mlines, .ref nl, .ref nc, .ref nF, .ref np, .ref ntr, .ref nb, .int mbestCost, .ref nso, .ref nsi, .ref nit, .ref nsh, .ref nsf, .ref nss, .ref nrc, .int (nI u.1), .int (nI jd), .int mnumber, .int mwhose, .int msize, .int u.2.1])), (nrc, .inl (G.2.1, 30, .inl u.2.2))]) := by
  refine MI.start (by decide +kernel) (Nat.le_of_ble_eq_true rfl) ?_
  intro p e s m below meth c A ls hC hK hP hD hS hA hl
  have hl : lv_has ls 5 [(0, .ref h0), (1, .int 3), (2, .int 1), (3, .int xx)] := hl
  obtain ⟨hx, hb, hr, hml, hB, hown, hlocks, hnm⟩ := id hC
  refine lv_iload_n hx hb dX12_bodyFrom_0 rfl (lv_at hl 1 rfl) ?_
  refine lv_istore (lv' := [(4, .int 3), (0, .ref h0), (1, .int 3), (2, .int 1), (3, .int xx)]) hx hb dX12_bodyFrom_1 hl (by decide) rfl (fun ls hl => ?_)
  refine lv_iload hx hb dX12_bodyFrom_3 (lv_at hl 0 rfl) ?_
  refine lv_iload_n hx hb dX12_bodyFrom_5 rfl (lv_at hl 3 rfl) ?_
  refine pS hC hK hl (m_hasOwn31 l G) si_X12_360 rfl rfl (Nat.le_of_ble_eq_true rfl) ⟨Nat.le_of_ble_eq_true rfl, Nat.le_of_ble_eq_true rfl⟩ ⟨by first | exact Nat.le_of_ble_eq_true rfl | exact Nat.zero_le _, by first | exact Nat.le_of_ble_eq_true rfl | exact Nat.zero_le _⟩ dX12_bodyFrom_6 (fun r6163 hr6163 => ?_)
  obtain rfl := hr6163
  refine lv_if_ne (tgt := 22) hx hb dX12_bodyFrom_9 (by decide) (fun _ => ?_) (fun c9 => absurd c9 (by decide))
  refine lv_aload_n hx hb dX12_bodyFrom_22 rfl (lv_at hl 1 rfl) ?_
  refine lv_iload hx hb dX12_bodyFrom_23 (lv_at hl 0 rfl) ?_
  refine lv_iload_n hx hb dX12_bodyFrom_25 rfl (lv_at hl 3 rfl) ?_
  refine lv_iload_n hx hb dX12_bodyFrom_26 rfl (lv_at hl 4 rfl) ?_
  refine iV (wr := []) hC hK hl hP hD hS hA (m_body31 l G h0 xx nw nk mhasKept nt mtaped nr mrowMany mroundOf mroundFrom mouts nm mfromHour mtoHour ns mfrom mto msort misFault mdeep mcoded mlines nl nc nF np ntr nb mbestCost nso nsi nit nsh nsf nss nrc jr jd mnumber mwhose msize misParted fnrc (by omega) (by omega)) si_X12_363 [0, 1] [] rfl rfl (by decide) rfl (by decide) (by decide) rfl rfl rfl rfl rfl (Nat.le_of_ble_eq_true rfl) ⟨Nat.le_of_ble_eq_true rfl, Nat.le_of_ble_eq_true rfl⟩ ⟨Nat.le_of_ble_eq_true rfl, Nat.le_of_ble_eq_true rfl⟩ dX12_bodyFrom_27 (fun r6165 u6166 H locs hr6165 hP hD hS => ?_)
  obtain ⟨jr16167, ip16168, gtrc6169⟩ := u6166
  try dsimp only at hr6165
  have hP : va_P G.1 vwCl [(h0, .inr (12, [.ref nw, .ref nk, .int mhasKept, .ref nt, .int mtaped, .ref nr, .int mrowMany, .int mroundOf, .int mroundFrom, .int mouts, .ref nm, .int mfromHour, .int mtoHour, .ref ns, .int mfrom, .int mto, .int msort, .int misFault, .int mdeep, .int mcoded, .int mlines, .ref nl, .ref nc, .ref nF, .ref np, .ref ntr, .ref nb, .int mbestCost, .ref nso, .ref nsi, .ref nit, .ref nsh, .ref nsf, .ref nss, .ref nrc, .int (nI jr16167), .int (nI jd), .int mnumber, .int mwhose, .int msize, .int ip16168])), (nrc, .inl (G.2.1, 30, .inl gtrc6169))] H := hP
  have hD : va_D A [(h0, .inr (12, [.ref nw, .ref nk, .int mhasKept, .ref nt, .int mtaped, .ref nr, .int mrowMany, .int mroundOf, .int mroundFrom, .int mouts, .ref nm, .int mfromHour, .int mtoHour, .ref ns, .int mfrom, .int mto, .int msort, .int misFault, .int mdeep, .int mcoded, .int mlines, .ref nl, .ref nc, .ref nF, .ref np, .ref ntr, .ref nb, .int mbestCost, .ref nso, .ref nsi, .ref nit, .ref nsh, .ref nsf, .ref nss, .ref nrc, .int (nI jr16167), .int (nI jd), .int mnumber, .int mwhose, .int msize, .int ip16168])), (nrc, .inl (G.2.1, 30, .inl gtrc6169))] := hD
  obtain ⟨hr6165, w6170⟩ := hr6165
  exact RI (v := r6165) hC hP hD hS [0, 1] (jr16167, ip16168, gtrc6169) rfl rfl (by decide) (⟨trivial, by omega⟩) rfl dX12_bodyFrom_30
set_option maxHeartbeats 4000000 in
set_option maxRecDepth 100000 in
theorem m_from21 (l : Launch) (G : GG) (h0 : Nat) (xx : Int32) (nw : Nat) (nk : Nat) (mhasKept : Int32) (nt : Nat) (mtaped : Int32) (nr : Nat) (mrowMany : Int32) (mroundOf : Int32) (mroundFrom : Int32) (mouts : Int32) (nm : Nat) (mfromHour : Int32) (mtoHour : Int32) (ns : Nat) (mfrom : Int32) (mto : Int32) (msort : Int32) (misFault : Int32) (mdeep : Int32) (mcoded : Int32) (mlines : Int32) (nl : Nat) (nc : Nat) (nF : Nat) (np : Nat) (ntr : Nat) (nb : Nat) (mbestCost : Int32) (nso : Nat) (nsi : Nat) (nit : Nat) (nsh : Nat) (nsf : Nat) (nss : Nat) (nrc : Nat) (jr : Nat) (jd : Nat) (mnumber : Int32) (mwhose : Int32) (msize : Int32) (misParted : Int32) (fnrc : Nat → Int32) (hjr : jr ≤ 30) (hjd : jd < 7) : MI l G yX12_bodyFrom cX12_bodyFrom 5 (some .int) 24 0 0 [.ref h0, .int 2, .int 1, .int xx] [(h0, .inr (12, [.ref nw, .ref nk, .int mhasKept, .ref nt, .int mtaped, .ref nr, .int mrowMany, .int mroundOf, .int mroundFrom, .int mouts, .ref nm, .int mfromHour, .int mtoHour, .ref ns, .int mfrom, .int mto, .int msort, .int misFault, .int mdeep, .int mcoded, .int mlines, .ref nl, .ref nc, .ref nF, .ref np, .ref ntr, .ref nb, .int mbestCost, .ref nso, .ref nsi, .ref nit, .ref nsh, .ref nsf, .ref nss, .ref nrc, .int (nI jr), .int (nI jd), .int mnumber, .int mwhose, .int msize, .int misParted])), (nrc, .inl (G.2.1, 30, .inl fnrc))] (fun (r : Int32) (u : Nat × Int32 × (Nat → Int32)) => (True) ∧ (u.1 ≤ 30)) (fun u : Nat × Int32 × (Nat → Int32) => [(h0, .inr (12, [.ref nw, .ref nk, .int mhasKept, .ref nt, .int mtaped, .ref nr, .int mrowMany, .int mroundOf, .int mroundFrom, .int mouts, .ref nm, .int mfromHour, .int mtoHour, .ref ns, .int mfrom, .int mto, .int msort, .int misFault, .int mdeep, .int mcoded, .int mlines, .ref nl, .ref nc, .ref nF, .ref np, .ref ntr, .ref nb, .int mbestCost, .ref nso, .ref nsi, .ref nit, .ref nsh, .ref nsf, .ref nss, .ref nrc, .int (nI u.1), .int (nI jd), .int mnumber, .int mwhose, .int msize, .int u.2.1])), (nrc, .inl (G.2.1, 30, .inl u.2.2))]) := by
  refine MI.start (by decide +kernel) (Nat.le_of_ble_eq_true rfl) ?_
  intro p e s m below meth c A ls hC hK hP hD hS hA hl
  have hl : lv_has ls 5 [(0, .ref h0), (1, .int 2), (2, .int 1), (3, .int xx)] := hl
  obtain ⟨hx, hb, hr, hml, hB, hown, hlocks, hnm⟩ := id hC
  refine lv_iload_n hx hb dX12_bodyFrom_0 rfl (lv_at hl 1 rfl) ?_
  refine lv_istore (lv' := [(4, .int 2), (0, .ref h0), (1, .int 2), (2, .int 1), (3, .int xx)]) hx hb dX12_bodyFrom_1 hl (by decide) rfl (fun ls hl => ?_)
  refine lv_iload hx hb dX12_bodyFrom_3 (lv_at hl 0 rfl) ?_
  refine lv_iload_n hx hb dX12_bodyFrom_5 rfl (lv_at hl 3 rfl) ?_
  refine pS hC hK hl (m_hasOwn21 l G) si_X12_360 rfl rfl (Nat.le_of_ble_eq_true rfl) ⟨Nat.le_of_ble_eq_true rfl, Nat.le_of_ble_eq_true rfl⟩ ⟨by first | exact Nat.le_of_ble_eq_true rfl | exact Nat.zero_le _, by first | exact Nat.le_of_ble_eq_true rfl | exact Nat.zero_le _⟩ dX12_bodyFrom_6 (fun r6171 hr6171 => ?_)
  obtain rfl := hr6171
  refine lv_if_ne (tgt := 22) hx hb dX12_bodyFrom_9 (by decide) (fun c9 => absurd (by decide) c9) (fun _ => ?_)
  refine lv_iload hx hb dX12_bodyFrom_12 (lv_at hl 0 rfl) ?_
  refine pS hC hK hl (m_above2 l G) si_X12_348 rfl rfl (Nat.le_of_ble_eq_true rfl) ⟨Nat.le_of_ble_eq_true rfl, Nat.le_of_ble_eq_true rfl⟩ ⟨by first | exact Nat.le_of_ble_eq_true rfl | exact Nat.zero_le _, by first | exact Nat.le_of_ble_eq_true rfl | exact Nat.zero_le _⟩ dX12_bodyFrom_14 (fun r6173 hr6173 => ?_)
  obtain rfl := hr6173
  refine lv_istore (lv' := [(4, .int 0), (0, .ref h0), (1, .int 2), (2, .int 1), (3, .int xx)]) hx hb dX12_bodyFrom_17 hl (by decide) rfl (fun ls hl => ?_)
  refine lv_goto (tgt := 3) hx hb dX12_bodyFrom_19 (by decide) ?_
  refine lv_iload hx hb dX12_bodyFrom_3 (lv_at hl 0 rfl) ?_
  refine lv_iload_n hx hb dX12_bodyFrom_5 rfl (lv_at hl 3 rfl) ?_
  refine pS hC hK hl (m_hasOwn01 l G) si_X12_360 rfl rfl (Nat.le_of_ble_eq_true rfl) ⟨Nat.le_of_ble_eq_true rfl, Nat.le_of_ble_eq_true rfl⟩ ⟨by first | exact Nat.le_of_ble_eq_true rfl | exact Nat.zero_le _, by first | exact Nat.le_of_ble_eq_true rfl | exact Nat.zero_le _⟩ dX12_bodyFrom_6 (fun r6175 hr6175 => ?_)
  obtain rfl := hr6175
  refine lv_if_ne (tgt := 22) hx hb dX12_bodyFrom_9 (by decide) (fun _ => ?_) (fun c9 => absurd c9 (by decide))
  refine lv_aload_n hx hb dX12_bodyFrom_22 rfl (lv_at hl 1 rfl) ?_
  refine lv_iload hx hb dX12_bodyFrom_23 (lv_at hl 0 rfl) ?_
  refine lv_iload_n hx hb dX12_bodyFrom_25 rfl (lv_at hl 3 rfl) ?_
  refine lv_iload_n hx hb dX12_bodyFrom_26 rfl (lv_at hl 4 rfl) ?_
  refine iV (wr := []) hC hK hl hP hD hS hA (m_body01 l G h0 xx nw nk mhasKept nt mtaped nr mrowMany mroundOf mroundFrom mouts nm mfromHour mtoHour ns mfrom mto msort misFault mdeep mcoded mlines nl nc nF np ntr nb mbestCost nso nsi nit nsh nsf nss nrc jr jd mnumber mwhose msize misParted fnrc (by omega) (by omega)) si_X12_363 [0, 1] [] rfl rfl (by decide) rfl (by decide) (by decide) rfl rfl rfl rfl rfl (Nat.le_of_ble_eq_true rfl) ⟨Nat.le_of_ble_eq_true rfl, Nat.le_of_ble_eq_true rfl⟩ ⟨Nat.le_of_ble_eq_true rfl, Nat.le_of_ble_eq_true rfl⟩ dX12_bodyFrom_27 (fun r6177 u6178 H locs hr6177 hP hD hS => ?_)
  obtain ⟨jr16179, ip16180, gtrc6181⟩ := u6178
  try dsimp only at hr6177
  have hP : va_P G.1 vwCl [(h0, .inr (12, [.ref nw, .ref nk, .int mhasKept, .ref nt, .int mtaped, .ref nr, .int mrowMany, .int mroundOf, .int mroundFrom, .int mouts, .ref nm, .int mfromHour, .int mtoHour, .ref ns, .int mfrom, .int mto, .int msort, .int misFault, .int mdeep, .int mcoded, .int mlines, .ref nl, .ref nc, .ref nF, .ref np, .ref ntr, .ref nb, .int mbestCost, .ref nso, .ref nsi, .ref nit, .ref nsh, .ref nsf, .ref nss, .ref nrc, .int (nI jr16179), .int (nI jd), .int mnumber, .int mwhose, .int msize, .int ip16180])), (nrc, .inl (G.2.1, 30, .inl gtrc6181))] H := hP
  have hD : va_D A [(h0, .inr (12, [.ref nw, .ref nk, .int mhasKept, .ref nt, .int mtaped, .ref nr, .int mrowMany, .int mroundOf, .int mroundFrom, .int mouts, .ref nm, .int mfromHour, .int mtoHour, .ref ns, .int mfrom, .int mto, .int msort, .int misFault, .int mdeep, .int mcoded, .int mlines, .ref nl, .ref nc, .ref nF, .ref np, .ref ntr, .ref nb, .int mbestCost, .ref nso, .ref nsi, .ref nit, .ref nsh, .ref nsf, .ref nss, .ref nrc, .int (nI jr16179), .int (nI jd), .int mnumber, .int mwhose, .int msize, .int ip16180])), (nrc, .inl (G.2.1, 30, .inl gtrc6181))] := hD
  obtain ⟨hr6177, w6182⟩ := hr6177
  exact RI (v := r6177) hC hP hD hS [0, 1] (jr16179, ip16180, gtrc6181) rfl rfl (by decide) (⟨trivial, by omega⟩) rfl dX12_bodyFrom_30
set_option maxHeartbeats 4000000 in
set_option maxRecDepth 100000 in
theorem m_from41 (l : Launch) (G : GG) (h0 : Nat) (xx : Int32) (nw : Nat) (nk : Nat) (mhasKept : Int32) (nt : Nat) (mtaped : Int32) (nr : Nat) (mrowMany : Int32) (mroundOf : Int32) (mroundFrom : Int32) (mouts : Int32) (nm : Nat) (mfromHour : Int32) (mtoHour : Int32) (ns : Nat) (mfrom : Int32) (mto : Int32) (msort : Int32) (misFault : Int32) (mdeep : Int32) (mcoded : Int32) (mlines : Int32) (nl : Nat) (nc : Nat) (nF : Nat) (np : Nat) (ntr : Nat) (nb : Nat) (mbestCost : Int32) (nso : Nat) (nsi : Nat) (nit : Nat) (nsh : Nat) (nsf : Nat) (nss : Nat) (nrc : Nat) (jr : Nat) (jd : Nat) (mnumber : Int32) (mwhose : Int32) (msize : Int32) (misParted : Int32) (fnrc : Nat → Int32) (hjr : jr ≤ 30) (hjd : jd < 7) : MI l G yX12_bodyFrom cX12_bodyFrom 5 (some .int) 24 0 0 [.ref h0, .int 4, .int 1, .int xx] [(h0, .inr (12, [.ref nw, .ref nk, .int mhasKept, .ref nt, .int mtaped, .ref nr, .int mrowMany, .int mroundOf, .int mroundFrom, .int mouts, .ref nm, .int mfromHour, .int mtoHour, .ref ns, .int mfrom, .int mto, .int msort, .int misFault, .int mdeep, .int mcoded, .int mlines, .ref nl, .ref nc, .ref nF, .ref np, .ref ntr, .ref nb, .int mbestCost, .ref nso, .ref nsi, .ref nit, .ref nsh, .ref nsf, .ref nss, .ref nrc, .int (nI jr), .int (nI jd), .int mnumber, .int mwhose, .int msize, .int misParted])), (nrc, .inl (G.2.1, 30, .inl fnrc))] (fun (r : Int32) (u : Nat × Int32 × (Nat → Int32)) => (True) ∧ (u.1 ≤ 30)) (fun u : Nat × Int32 × (Nat → Int32) => [(h0, .inr (12, [.ref nw, .ref nk, .int mhasKept, .ref nt, .int mtaped, .ref nr, .int mrowMany, .int mroundOf, .int mroundFrom, .int mouts, .ref nm, .int mfromHour, .int mtoHour, .ref ns, .int mfrom, .int mto, .int msort, .int misFault, .int mdeep, .int mcoded, .int mlines, .ref nl, .ref nc, .ref nF, .ref np, .ref ntr, .ref nb, .int mbestCost, .ref nso, .ref nsi, .ref nit, .ref nsh, .ref nsf, .ref nss, .ref nrc, .int (nI u.1), .int (nI jd), .int mnumber, .int mwhose, .int msize, .int u.2.1])), (nrc, .inl (G.2.1, 30, .inl u.2.2))]) := by
  refine MI.start (by decide +kernel) (Nat.le_of_ble_eq_true rfl) ?_
  intro p e s m below meth c A ls hC hK hP hD hS hA hl
  have hl : lv_has ls 5 [(0, .ref h0), (1, .int 4), (2, .int 1), (3, .int xx)] := hl
  obtain ⟨hx, hb, hr, hml, hB, hown, hlocks, hnm⟩ := id hC
  refine lv_iload_n hx hb dX12_bodyFrom_0 rfl (lv_at hl 1 rfl) ?_
  refine lv_istore (lv' := [(4, .int 4), (0, .ref h0), (1, .int 4), (2, .int 1), (3, .int xx)]) hx hb dX12_bodyFrom_1 hl (by decide) rfl (fun ls hl => ?_)
  refine lv_iload hx hb dX12_bodyFrom_3 (lv_at hl 0 rfl) ?_
  refine lv_iload_n hx hb dX12_bodyFrom_5 rfl (lv_at hl 3 rfl) ?_
  refine pS hC hK hl (m_hasOwn41 l G) si_X12_360 rfl rfl (Nat.le_of_ble_eq_true rfl) ⟨Nat.le_of_ble_eq_true rfl, Nat.le_of_ble_eq_true rfl⟩ ⟨by first | exact Nat.le_of_ble_eq_true rfl | exact Nat.zero_le _, by first | exact Nat.le_of_ble_eq_true rfl | exact Nat.zero_le _⟩ dX12_bodyFrom_6 (fun r6183 hr6183 => ?_)
  obtain rfl := hr6183
  refine lv_if_ne (tgt := 22) hx hb dX12_bodyFrom_9 (by decide) (fun c9 => absurd (by decide) c9) (fun _ => ?_)
  refine lv_iload hx hb dX12_bodyFrom_12 (lv_at hl 0 rfl) ?_
  refine pS hC hK hl (m_above4 l G) si_X12_348 rfl rfl (Nat.le_of_ble_eq_true rfl) ⟨Nat.le_of_ble_eq_true rfl, Nat.le_of_ble_eq_true rfl⟩ ⟨by first | exact Nat.le_of_ble_eq_true rfl | exact Nat.zero_le _, by first | exact Nat.le_of_ble_eq_true rfl | exact Nat.zero_le _⟩ dX12_bodyFrom_14 (fun r6185 hr6185 => ?_)
  obtain rfl := hr6185
  refine lv_istore (lv' := [(4, .int 0), (0, .ref h0), (1, .int 4), (2, .int 1), (3, .int xx)]) hx hb dX12_bodyFrom_17 hl (by decide) rfl (fun ls hl => ?_)
  refine lv_goto (tgt := 3) hx hb dX12_bodyFrom_19 (by decide) ?_
  refine lv_iload hx hb dX12_bodyFrom_3 (lv_at hl 0 rfl) ?_
  refine lv_iload_n hx hb dX12_bodyFrom_5 rfl (lv_at hl 3 rfl) ?_
  refine pS hC hK hl (m_hasOwn01 l G) si_X12_360 rfl rfl (Nat.le_of_ble_eq_true rfl) ⟨Nat.le_of_ble_eq_true rfl, Nat.le_of_ble_eq_true rfl⟩ ⟨by first | exact Nat.le_of_ble_eq_true rfl | exact Nat.zero_le _, by first | exact Nat.le_of_ble_eq_true rfl | exact Nat.zero_le _⟩ dX12_bodyFrom_6 (fun r6187 hr6187 => ?_)
  obtain rfl := hr6187
  refine lv_if_ne (tgt := 22) hx hb dX12_bodyFrom_9 (by decide) (fun _ => ?_) (fun c9 => absurd c9 (by decide))
  refine lv_aload_n hx hb dX12_bodyFrom_22 rfl (lv_at hl 1 rfl) ?_
  refine lv_iload hx hb dX12_bodyFrom_23 (lv_at hl 0 rfl) ?_
  refine lv_iload_n hx hb dX12_bodyFrom_25 rfl (lv_at hl 3 rfl) ?_
  refine lv_iload_n hx hb dX12_bodyFrom_26 rfl (lv_at hl 4 rfl) ?_
  refine iV (wr := []) hC hK hl hP hD hS hA (m_body01 l G h0 xx nw nk mhasKept nt mtaped nr mrowMany mroundOf mroundFrom mouts nm mfromHour mtoHour ns mfrom mto msort misFault mdeep mcoded mlines nl nc nF np ntr nb mbestCost nso nsi nit nsh nsf nss nrc jr jd mnumber mwhose msize misParted fnrc (by omega) (by omega)) si_X12_363 [0, 1] [] rfl rfl (by decide) rfl (by decide) (by decide) rfl rfl rfl rfl rfl (Nat.le_of_ble_eq_true rfl) ⟨Nat.le_of_ble_eq_true rfl, Nat.le_of_ble_eq_true rfl⟩ ⟨Nat.le_of_ble_eq_true rfl, Nat.le_of_ble_eq_true rfl⟩ dX12_bodyFrom_27 (fun r6189 u6190 H locs hr6189 hP hD hS => ?_)
  obtain ⟨jr16191, ip16192, gtrc6193⟩ := u6190
  try dsimp only at hr6189
  have hP : va_P G.1 vwCl [(h0, .inr (12, [.ref nw, .ref nk, .int mhasKept, .ref nt, .int mtaped, .ref nr, .int mrowMany, .int mroundOf, .int mroundFrom, .int mouts, .ref nm, .int mfromHour, .int mtoHour, .ref ns, .int mfrom, .int mto, .int msort, .int misFault, .int mdeep, .int mcoded, .int mlines, .ref nl, .ref nc, .ref nF, .ref np, .ref ntr, .ref nb, .int mbestCost, .ref nso, .ref nsi, .ref nit, .ref nsh, .ref nsf, .ref nss, .ref nrc, .int (nI jr16191), .int (nI jd), .int mnumber, .int mwhose, .int msize, .int ip16192])), (nrc, .inl (G.2.1, 30, .inl gtrc6193))] H := hP
  have hD : va_D A [(h0, .inr (12, [.ref nw, .ref nk, .int mhasKept, .ref nt, .int mtaped, .ref nr, .int mrowMany, .int mroundOf, .int mroundFrom, .int mouts, .ref nm, .int mfromHour, .int mtoHour, .ref ns, .int mfrom, .int mto, .int msort, .int misFault, .int mdeep, .int mcoded, .int mlines, .ref nl, .ref nc, .ref nF, .ref np, .ref ntr, .ref nb, .int mbestCost, .ref nso, .ref nsi, .ref nit, .ref nsh, .ref nsf, .ref nss, .ref nrc, .int (nI jr16191), .int (nI jd), .int mnumber, .int mwhose, .int msize, .int ip16192])), (nrc, .inl (G.2.1, 30, .inl gtrc6193))] := hD
  obtain ⟨hr6189, w6194⟩ := hr6189
  exact RI (v := r6189) hC hP hD hS [0, 1] (jr16191, ip16192, gtrc6193) rfl rfl (by decide) (⟨trivial, by omega⟩) rfl dX12_bodyFrom_30
set_option maxHeartbeats 4000000 in
set_option maxRecDepth 100000 in
theorem m_from51 (l : Launch) (G : GG) (h0 : Nat) (xx : Int32) (nw : Nat) (nk : Nat) (mhasKept : Int32) (nt : Nat) (mtaped : Int32) (nr : Nat) (mrowMany : Int32) (mroundOf : Int32) (mroundFrom : Int32) (mouts : Int32) (nm : Nat) (mfromHour : Int32) (mtoHour : Int32) (ns : Nat) (mfrom : Int32) (mto : Int32) (msort : Int32) (misFault : Int32) (mdeep : Int32) (mcoded : Int32) (mlines : Int32) (nl : Nat) (nc : Nat) (nF : Nat) (np : Nat) (ntr : Nat) (nb : Nat) (mbestCost : Int32) (nso : Nat) (nsi : Nat) (nit : Nat) (nsh : Nat) (nsf : Nat) (nss : Nat) (nrc : Nat) (jr : Nat) (jd : Nat) (mnumber : Int32) (mwhose : Int32) (msize : Int32) (misParted : Int32) (fnrc : Nat → Int32) (hjr : jr ≤ 30) (hjd : jd < 7) : MI l G yX12_bodyFrom cX12_bodyFrom 5 (some .int) 24 0 0 [.ref h0, .int 5, .int 1, .int xx] [(h0, .inr (12, [.ref nw, .ref nk, .int mhasKept, .ref nt, .int mtaped, .ref nr, .int mrowMany, .int mroundOf, .int mroundFrom, .int mouts, .ref nm, .int mfromHour, .int mtoHour, .ref ns, .int mfrom, .int mto, .int msort, .int misFault, .int mdeep, .int mcoded, .int mlines, .ref nl, .ref nc, .ref nF, .ref np, .ref ntr, .ref nb, .int mbestCost, .ref nso, .ref nsi, .ref nit, .ref nsh, .ref nsf, .ref nss, .ref nrc, .int (nI jr), .int (nI jd), .int mnumber, .int mwhose, .int msize, .int misParted])), (nrc, .inl (G.2.1, 30, .inl fnrc))] (fun (r : Int32) (u : Nat × Int32 × (Nat → Int32)) => (True) ∧ (u.1 ≤ 30)) (fun u : Nat × Int32 × (Nat → Int32) => [(h0, .inr (12, [.ref nw, .ref nk, .int mhasKept, .ref nt, .int mtaped, .ref nr, .int mrowMany, .int mroundOf, .int mroundFrom, .int mouts, .ref nm, .int mfromHour, .int mtoHour, .ref ns, .int mfrom, .int mto, .int msort, .int misFault, .int mdeep, .int mcoded, .int mlines, .ref nl, .ref nc, .ref nF, .ref np, .ref ntr, .ref nb, .int mbestCost, .ref nso, .ref nsi, .ref nit, .ref nsh, .ref nsf, .ref nss, .ref nrc, .int (nI u.1), .int (nI jd), .int mnumber, .int mwhose, .int msize, .int u.2.1])), (nrc, .inl (G.2.1, 30, .inl u.2.2))]) := by
  refine MI.start (by decide +kernel) (Nat.le_of_ble_eq_true rfl) ?_
  intro p e s m below meth c A ls hC hK hP hD hS hA hl
  have hl : lv_has ls 5 [(0, .ref h0), (1, .int 5), (2, .int 1), (3, .int xx)] := hl
  obtain ⟨hx, hb, hr, hml, hB, hown, hlocks, hnm⟩ := id hC
  refine lv_iload_n hx hb dX12_bodyFrom_0 rfl (lv_at hl 1 rfl) ?_
  refine lv_istore (lv' := [(4, .int 5), (0, .ref h0), (1, .int 5), (2, .int 1), (3, .int xx)]) hx hb dX12_bodyFrom_1 hl (by decide) rfl (fun ls hl => ?_)
  refine lv_iload hx hb dX12_bodyFrom_3 (lv_at hl 0 rfl) ?_
  refine lv_iload_n hx hb dX12_bodyFrom_5 rfl (lv_at hl 3 rfl) ?_
  refine pS hC hK hl (m_hasOwn51 l G) si_X12_360 rfl rfl (Nat.le_of_ble_eq_true rfl) ⟨Nat.le_of_ble_eq_true rfl, Nat.le_of_ble_eq_true rfl⟩ ⟨by first | exact Nat.le_of_ble_eq_true rfl | exact Nat.zero_le _, by first | exact Nat.le_of_ble_eq_true rfl | exact Nat.zero_le _⟩ dX12_bodyFrom_6 (fun r6195 hr6195 => ?_)
  obtain rfl := hr6195
  refine lv_if_ne (tgt := 22) hx hb dX12_bodyFrom_9 (by decide) (fun c9 => absurd (by decide) c9) (fun _ => ?_)
  refine lv_iload hx hb dX12_bodyFrom_12 (lv_at hl 0 rfl) ?_
  refine pS hC hK hl (m_above5 l G) si_X12_348 rfl rfl (Nat.le_of_ble_eq_true rfl) ⟨Nat.le_of_ble_eq_true rfl, Nat.le_of_ble_eq_true rfl⟩ ⟨by first | exact Nat.le_of_ble_eq_true rfl | exact Nat.zero_le _, by first | exact Nat.le_of_ble_eq_true rfl | exact Nat.zero_le _⟩ dX12_bodyFrom_14 (fun r6197 hr6197 => ?_)
  obtain rfl := hr6197
  refine lv_istore (lv' := [(4, .int 4), (0, .ref h0), (1, .int 5), (2, .int 1), (3, .int xx)]) hx hb dX12_bodyFrom_17 hl (by decide) rfl (fun ls hl => ?_)
  refine lv_goto (tgt := 3) hx hb dX12_bodyFrom_19 (by decide) ?_
  refine lv_iload hx hb dX12_bodyFrom_3 (lv_at hl 0 rfl) ?_
  refine lv_iload_n hx hb dX12_bodyFrom_5 rfl (lv_at hl 3 rfl) ?_
  refine pS hC hK hl (m_hasOwn41 l G) si_X12_360 rfl rfl (Nat.le_of_ble_eq_true rfl) ⟨Nat.le_of_ble_eq_true rfl, Nat.le_of_ble_eq_true rfl⟩ ⟨by first | exact Nat.le_of_ble_eq_true rfl | exact Nat.zero_le _, by first | exact Nat.le_of_ble_eq_true rfl | exact Nat.zero_le _⟩ dX12_bodyFrom_6 (fun r6199 hr6199 => ?_)
  obtain rfl := hr6199
  refine lv_if_ne (tgt := 22) hx hb dX12_bodyFrom_9 (by decide) (fun c9 => absurd (by decide) c9) (fun _ => ?_)
  refine lv_iload hx hb dX12_bodyFrom_12 (lv_at hl 0 rfl) ?_
  refine pS hC hK hl (m_above4 l G) si_X12_348 rfl rfl (Nat.le_of_ble_eq_true rfl) ⟨Nat.le_of_ble_eq_true rfl, Nat.le_of_ble_eq_true rfl⟩ ⟨by first | exact Nat.le_of_ble_eq_true rfl | exact Nat.zero_le _, by first | exact Nat.le_of_ble_eq_true rfl | exact Nat.zero_le _⟩ dX12_bodyFrom_14 (fun r6201 hr6201 => ?_)
  obtain rfl := hr6201
  refine lv_istore (lv' := [(4, .int 0), (0, .ref h0), (1, .int 5), (2, .int 1), (3, .int xx)]) hx hb dX12_bodyFrom_17 hl (by decide) rfl (fun ls hl => ?_)
  refine lv_goto (tgt := 3) hx hb dX12_bodyFrom_19 (by decide) ?_
  refine lv_iload hx hb dX12_bodyFrom_3 (lv_at hl 0 rfl) ?_
  refine lv_iload_n hx hb dX12_bodyFrom_5 rfl (lv_at hl 3 rfl) ?_
  refine pS hC hK hl (m_hasOwn01 l G) si_X12_360 rfl rfl (Nat.le_of_ble_eq_true rfl) ⟨Nat.le_of_ble_eq_true rfl, Nat.le_of_ble_eq_true rfl⟩ ⟨by first | exact Nat.le_of_ble_eq_true rfl | exact Nat.zero_le _, by first | exact Nat.le_of_ble_eq_true rfl | exact Nat.zero_le _⟩ dX12_bodyFrom_6 (fun r6203 hr6203 => ?_)
  obtain rfl := hr6203
  refine lv_if_ne (tgt := 22) hx hb dX12_bodyFrom_9 (by decide) (fun _ => ?_) (fun c9 => absurd c9 (by decide))
  refine lv_aload_n hx hb dX12_bodyFrom_22 rfl (lv_at hl 1 rfl) ?_
  refine lv_iload hx hb dX12_bodyFrom_23 (lv_at hl 0 rfl) ?_
  refine lv_iload_n hx hb dX12_bodyFrom_25 rfl (lv_at hl 3 rfl) ?_
  refine lv_iload_n hx hb dX12_bodyFrom_26 rfl (lv_at hl 4 rfl) ?_
  refine iV (wr := []) hC hK hl hP hD hS hA (m_body01 l G h0 xx nw nk mhasKept nt mtaped nr mrowMany mroundOf mroundFrom mouts nm mfromHour mtoHour ns mfrom mto msort misFault mdeep mcoded mlines nl nc nF np ntr nb mbestCost nso nsi nit nsh nsf nss nrc jr jd mnumber mwhose msize misParted fnrc (by omega) (by omega)) si_X12_363 [0, 1] [] rfl rfl (by decide) rfl (by decide) (by decide) rfl rfl rfl rfl rfl (Nat.le_of_ble_eq_true rfl) ⟨Nat.le_of_ble_eq_true rfl, Nat.le_of_ble_eq_true rfl⟩ ⟨Nat.le_of_ble_eq_true rfl, Nat.le_of_ble_eq_true rfl⟩ dX12_bodyFrom_27 (fun r6205 u6206 H locs hr6205 hP hD hS => ?_)
  obtain ⟨jr16207, ip16208, gtrc6209⟩ := u6206
  try dsimp only at hr6205
  have hP : va_P G.1 vwCl [(h0, .inr (12, [.ref nw, .ref nk, .int mhasKept, .ref nt, .int mtaped, .ref nr, .int mrowMany, .int mroundOf, .int mroundFrom, .int mouts, .ref nm, .int mfromHour, .int mtoHour, .ref ns, .int mfrom, .int mto, .int msort, .int misFault, .int mdeep, .int mcoded, .int mlines, .ref nl, .ref nc, .ref nF, .ref np, .ref ntr, .ref nb, .int mbestCost, .ref nso, .ref nsi, .ref nit, .ref nsh, .ref nsf, .ref nss, .ref nrc, .int (nI jr16207), .int (nI jd), .int mnumber, .int mwhose, .int msize, .int ip16208])), (nrc, .inl (G.2.1, 30, .inl gtrc6209))] H := hP
  have hD : va_D A [(h0, .inr (12, [.ref nw, .ref nk, .int mhasKept, .ref nt, .int mtaped, .ref nr, .int mrowMany, .int mroundOf, .int mroundFrom, .int mouts, .ref nm, .int mfromHour, .int mtoHour, .ref ns, .int mfrom, .int mto, .int msort, .int misFault, .int mdeep, .int mcoded, .int mlines, .ref nl, .ref nc, .ref nF, .ref np, .ref ntr, .ref nb, .int mbestCost, .ref nso, .ref nsi, .ref nit, .ref nsh, .ref nsf, .ref nss, .ref nrc, .int (nI jr16207), .int (nI jd), .int mnumber, .int mwhose, .int msize, .int ip16208])), (nrc, .inl (G.2.1, 30, .inl gtrc6209))] := hD
  obtain ⟨hr6205, w6210⟩ := hr6205
  exact RI (v := r6205) hC hP hD hS [0, 1] (jr16207, ip16208, gtrc6209) rfl rfl (by decide) (⟨trivial, by omega⟩) rfl dX12_bodyFrom_30
set_option maxHeartbeats 4000000 in
set_option maxRecDepth 100000 in
theorem m_from61 (l : Launch) (G : GG) (h0 : Nat) (xx : Int32) (nw : Nat) (nk : Nat) (mhasKept : Int32) (nt : Nat) (mtaped : Int32) (nr : Nat) (mrowMany : Int32) (mroundOf : Int32) (mroundFrom : Int32) (mouts : Int32) (nm : Nat) (mfromHour : Int32) (mtoHour : Int32) (ns : Nat) (mfrom : Int32) (mto : Int32) (msort : Int32) (misFault : Int32) (mdeep : Int32) (mcoded : Int32) (mlines : Int32) (nl : Nat) (nc : Nat) (nF : Nat) (np : Nat) (ntr : Nat) (nb : Nat) (mbestCost : Int32) (nso : Nat) (nsi : Nat) (nit : Nat) (nsh : Nat) (nsf : Nat) (nss : Nat) (nrc : Nat) (jr : Nat) (jd : Nat) (mnumber : Int32) (mwhose : Int32) (msize : Int32) (misParted : Int32) (fnrc : Nat → Int32) (hjr : jr ≤ 30) (hjd : jd < 7) : MI l G yX12_bodyFrom cX12_bodyFrom 5 (some .int) 24 0 0 [.ref h0, .int 6, .int 1, .int xx] [(h0, .inr (12, [.ref nw, .ref nk, .int mhasKept, .ref nt, .int mtaped, .ref nr, .int mrowMany, .int mroundOf, .int mroundFrom, .int mouts, .ref nm, .int mfromHour, .int mtoHour, .ref ns, .int mfrom, .int mto, .int msort, .int misFault, .int mdeep, .int mcoded, .int mlines, .ref nl, .ref nc, .ref nF, .ref np, .ref ntr, .ref nb, .int mbestCost, .ref nso, .ref nsi, .ref nit, .ref nsh, .ref nsf, .ref nss, .ref nrc, .int (nI jr), .int (nI jd), .int mnumber, .int mwhose, .int msize, .int misParted])), (nrc, .inl (G.2.1, 30, .inl fnrc))] (fun (r : Int32) (u : Nat × Int32 × (Nat → Int32)) => (True) ∧ (u.1 ≤ 30)) (fun u : Nat × Int32 × (Nat → Int32) => [(h0, .inr (12, [.ref nw, .ref nk, .int mhasKept, .ref nt, .int mtaped, .ref nr, .int mrowMany, .int mroundOf, .int mroundFrom, .int mouts, .ref nm, .int mfromHour, .int mtoHour, .ref ns, .int mfrom, .int mto, .int msort, .int misFault, .int mdeep, .int mcoded, .int mlines, .ref nl, .ref nc, .ref nF, .ref np, .ref ntr, .ref nb, .int mbestCost, .ref nso, .ref nsi, .ref nit, .ref nsh, .ref nsf, .ref nss, .ref nrc, .int (nI u.1), .int (nI jd), .int mnumber, .int mwhose, .int msize, .int u.2.1])), (nrc, .inl (G.2.1, 30, .inl u.2.2))]) := by
  refine MI.start (by decide +kernel) (Nat.le_of_ble_eq_true rfl) ?_
  intro p e s m below meth c A ls hC hK hP hD hS hA hl
  have hl : lv_has ls 5 [(0, .ref h0), (1, .int 6), (2, .int 1), (3, .int xx)] := hl
  obtain ⟨hx, hb, hr, hml, hB, hown, hlocks, hnm⟩ := id hC
  refine lv_iload_n hx hb dX12_bodyFrom_0 rfl (lv_at hl 1 rfl) ?_
  refine lv_istore (lv' := [(4, .int 6), (0, .ref h0), (1, .int 6), (2, .int 1), (3, .int xx)]) hx hb dX12_bodyFrom_1 hl (by decide) rfl (fun ls hl => ?_)
  refine lv_iload hx hb dX12_bodyFrom_3 (lv_at hl 0 rfl) ?_
  refine lv_iload_n hx hb dX12_bodyFrom_5 rfl (lv_at hl 3 rfl) ?_
  refine pS hC hK hl (m_hasOwn61 l G) si_X12_360 rfl rfl (Nat.le_of_ble_eq_true rfl) ⟨Nat.le_of_ble_eq_true rfl, Nat.le_of_ble_eq_true rfl⟩ ⟨by first | exact Nat.le_of_ble_eq_true rfl | exact Nat.zero_le _, by first | exact Nat.le_of_ble_eq_true rfl | exact Nat.zero_le _⟩ dX12_bodyFrom_6 (fun r6211 hr6211 => ?_)
  obtain rfl := hr6211
  refine lv_if_ne (tgt := 22) hx hb dX12_bodyFrom_9 (by decide) (fun c9 => absurd (by decide) c9) (fun _ => ?_)
  refine lv_iload hx hb dX12_bodyFrom_12 (lv_at hl 0 rfl) ?_
  refine pS hC hK hl (m_above6 l G) si_X12_348 rfl rfl (Nat.le_of_ble_eq_true rfl) ⟨Nat.le_of_ble_eq_true rfl, Nat.le_of_ble_eq_true rfl⟩ ⟨by first | exact Nat.le_of_ble_eq_true rfl | exact Nat.zero_le _, by first | exact Nat.le_of_ble_eq_true rfl | exact Nat.zero_le _⟩ dX12_bodyFrom_14 (fun r6213 hr6213 => ?_)
  obtain rfl := hr6213
  refine lv_istore (lv' := [(4, .int 0), (0, .ref h0), (1, .int 6), (2, .int 1), (3, .int xx)]) hx hb dX12_bodyFrom_17 hl (by decide) rfl (fun ls hl => ?_)
  refine lv_goto (tgt := 3) hx hb dX12_bodyFrom_19 (by decide) ?_
  refine lv_iload hx hb dX12_bodyFrom_3 (lv_at hl 0 rfl) ?_
  refine lv_iload_n hx hb dX12_bodyFrom_5 rfl (lv_at hl 3 rfl) ?_
  refine pS hC hK hl (m_hasOwn01 l G) si_X12_360 rfl rfl (Nat.le_of_ble_eq_true rfl) ⟨Nat.le_of_ble_eq_true rfl, Nat.le_of_ble_eq_true rfl⟩ ⟨by first | exact Nat.le_of_ble_eq_true rfl | exact Nat.zero_le _, by first | exact Nat.le_of_ble_eq_true rfl | exact Nat.zero_le _⟩ dX12_bodyFrom_6 (fun r6215 hr6215 => ?_)
  obtain rfl := hr6215
  refine lv_if_ne (tgt := 22) hx hb dX12_bodyFrom_9 (by decide) (fun _ => ?_) (fun c9 => absurd c9 (by decide))
  refine lv_aload_n hx hb dX12_bodyFrom_22 rfl (lv_at hl 1 rfl) ?_
  refine lv_iload hx hb dX12_bodyFrom_23 (lv_at hl 0 rfl) ?_
  refine lv_iload_n hx hb dX12_bodyFrom_25 rfl (lv_at hl 3 rfl) ?_
  refine lv_iload_n hx hb dX12_bodyFrom_26 rfl (lv_at hl 4 rfl) ?_
  refine iV (wr := []) hC hK hl hP hD hS hA (m_body01 l G h0 xx nw nk mhasKept nt mtaped nr mrowMany mroundOf mroundFrom mouts nm mfromHour mtoHour ns mfrom mto msort misFault mdeep mcoded mlines nl nc nF np ntr nb mbestCost nso nsi nit nsh nsf nss nrc jr jd mnumber mwhose msize misParted fnrc (by omega) (by omega)) si_X12_363 [0, 1] [] rfl rfl (by decide) rfl (by decide) (by decide) rfl rfl rfl rfl rfl (Nat.le_of_ble_eq_true rfl) ⟨Nat.le_of_ble_eq_true rfl, Nat.le_of_ble_eq_true rfl⟩ ⟨Nat.le_of_ble_eq_true rfl, Nat.le_of_ble_eq_true rfl⟩ dX12_bodyFrom_27 (fun r6217 u6218 H locs hr6217 hP hD hS => ?_)
  obtain ⟨jr16219, ip16220, gtrc6221⟩ := u6218
  try dsimp only at hr6217
  have hP : va_P G.1 vwCl [(h0, .inr (12, [.ref nw, .ref nk, .int mhasKept, .ref nt, .int mtaped, .ref nr, .int mrowMany, .int mroundOf, .int mroundFrom, .int mouts, .ref nm, .int mfromHour, .int mtoHour, .ref ns, .int mfrom, .int mto, .int msort, .int misFault, .int mdeep, .int mcoded, .int mlines, .ref nl, .ref nc, .ref nF, .ref np, .ref ntr, .ref nb, .int mbestCost, .ref nso, .ref nsi, .ref nit, .ref nsh, .ref nsf, .ref nss, .ref nrc, .int (nI jr16219), .int (nI jd), .int mnumber, .int mwhose, .int msize, .int ip16220])), (nrc, .inl (G.2.1, 30, .inl gtrc6221))] H := hP
  have hD : va_D A [(h0, .inr (12, [.ref nw, .ref nk, .int mhasKept, .ref nt, .int mtaped, .ref nr, .int mrowMany, .int mroundOf, .int mroundFrom, .int mouts, .ref nm, .int mfromHour, .int mtoHour, .ref ns, .int mfrom, .int mto, .int msort, .int misFault, .int mdeep, .int mcoded, .int mlines, .ref nl, .ref nc, .ref nF, .ref np, .ref ntr, .ref nb, .int mbestCost, .ref nso, .ref nsi, .ref nit, .ref nsh, .ref nsf, .ref nss, .ref nrc, .int (nI jr16219), .int (nI jd), .int mnumber, .int mwhose, .int msize, .int ip16220])), (nrc, .inl (G.2.1, 30, .inl gtrc6221))] := hD
  obtain ⟨hr6217, w6222⟩ := hr6217
  exact RI (v := r6217) hC hP hD hS [0, 1] (jr16219, ip16220, gtrc6221) rfl rfl (by decide) (⟨trivial, by omega⟩) rfl dX12_bodyFrom_30
set_option maxHeartbeats 4000000 in
set_option maxRecDepth 100000 in
theorem m_dealt1 (l : Launch) (G : GG) (h0 : Nat) (xx : Int32) (nw : Nat) (nk : Nat) (mhasKept : Int32) (nt : Nat) (mtaped : Int32) (nr : Nat) (mrowMany : Int32) (mroundOf : Int32) (mroundFrom : Int32) (mouts : Int32) (nm : Nat) (mfromHour : Int32) (mtoHour : Int32) (ns : Nat) (mfrom : Int32) (mto : Int32) (msort : Int32) (misFault : Int32) (mdeep : Int32) (mcoded : Int32) (mlines : Int32) (nl : Nat) (nc : Nat) (nF : Nat) (np : Nat) (ntr : Nat) (nb : Nat) (mbestCost : Int32) (nso : Nat) (nsi : Nat) (nit : Nat) (nsh : Nat) (nsf : Nat) (nss : Nat) (nrc : Nat) (jr : Nat) (jd : Nat) (mnumber : Int32) (mwhose : Int32) (msize : Int32) (misParted : Int32) (fnrc : Nat → Int32) (hjr : jr ≤ 30) (hjd : jd < 7) : MI l G yX12_dealt cX12_dealt 3 (some .int) 26 0 0 [.ref h0, .int 1, .int xx] [(h0, .inr (12, [.ref nw, .ref nk, .int mhasKept, .ref nt, .int mtaped, .ref nr, .int mrowMany, .int mroundOf, .int mroundFrom, .int mouts, .ref nm, .int mfromHour, .int mtoHour, .ref ns, .int mfrom, .int mto, .int msort, .int misFault, .int mdeep, .int mcoded, .int mlines, .ref nl, .ref nc, .ref nF, .ref np, .ref ntr, .ref nb, .int mbestCost, .ref nso, .ref nsi, .ref nit, .ref nsh, .ref nsf, .ref nss, .ref nrc, .int (nI jr), .int (nI jd), .int mnumber, .int mwhose, .int msize, .int misParted])), (nrc, .inl (G.2.1, 30, .inl fnrc))] (fun (r : Int32) (u : Nat × Int32 × (Nat → Int32)) => (True) ∧ (u.1 ≤ 30)) (fun u : Nat × Int32 × (Nat → Int32) => [(h0, .inr (12, [.ref nw, .ref nk, .int mhasKept, .ref nt, .int mtaped, .ref nr, .int mrowMany, .int mroundOf, .int mroundFrom, .int mouts, .ref nm, .int mfromHour, .int mtoHour, .ref ns, .int mfrom, .int mto, .int msort, .int misFault, .int mdeep, .int mcoded, .int mlines, .ref nl, .ref nc, .ref nF, .ref np, .ref ntr, .ref nb, .int mbestCost, .ref nso, .ref nsi, .ref nit, .ref nsh, .ref nsf, .ref nss, .ref nrc, .int (nI u.1), .int (nI jd), .int mnumber, .int mwhose, .int msize, .int u.2.1])), (nrc, .inl (G.2.1, 30, .inl u.2.2))]) := by
  refine MI.start (by decide +kernel) (Nat.le_of_ble_eq_true rfl) ?_
  intro p e s m below meth c A ls hC hK hP hD hS hA hl
  have hl : lv_has ls 3 [(0, .ref h0), (1, .int 1), (2, .int xx)] := hl
  obtain ⟨hx, hb, hr, hml, hB, hown, hlocks, hnm⟩ := id hC
  refine lv_aload_n hx hb dX12_dealt_0 rfl (lv_at hl 0 rfl) ?_
  refine lv_aload_n hx hb dX12_dealt_1 rfl (lv_at hl 0 rfl) ?_
  refine gf_X12_354 hC rfl hK hP 0 rfl rfl dX12_dealt_2 ?_
  refine lv_iload_n hx hb dX12_dealt_5 rfl (lv_at hl 1 rfl) ?_
  refine lv_iload_n hx hb dX12_dealt_6 rfl (lv_at hl 2 rfl) ?_
  rcases (show jd = 0 ∨ jd = 1 ∨ jd = 2 ∨ jd = 3 ∨ jd = 4 ∨ jd = 5 ∨ jd = 6 by omega) with rfl | rfl | rfl | rfl | rfl | rfl | rfl
  · refine iV (wr := []) hC hK hl hP hD hS hA (m_from01 l G h0 xx nw nk mhasKept nt mtaped nr mrowMany mroundOf mroundFrom mouts nm mfromHour mtoHour ns mfrom mto msort misFault mdeep mcoded mlines nl nc nF np ntr nb mbestCost nso nsi nit nsh nsf nss nrc jr 0 mnumber mwhose msize misParted fnrc (by omega) (by omega)) si_X12_357 [0, 1] [] rfl rfl (by decide) rfl (by decide) (by decide) rfl rfl rfl rfl rfl (Nat.le_of_ble_eq_true rfl) ⟨Nat.le_of_ble_eq_true rfl, Nat.le_of_ble_eq_true rfl⟩ ⟨Nat.le_of_ble_eq_true rfl, Nat.le_of_ble_eq_true rfl⟩ dX12_dealt_7 (fun r6223 u6224 H locs hr6223 hP hD hS => ?_)
    obtain ⟨jr16225, ip16226, gtrc6227⟩ := u6224
    try dsimp only at hr6223
    have hP : va_P G.1 vwCl [(h0, .inr (12, [.ref nw, .ref nk, .int mhasKept, .ref nt, .int mtaped, .ref nr, .int mrowMany, .int mroundOf, .int mroundFrom, .int mouts, .ref nm, .int mfromHour, .int mtoHour, .ref ns, .int mfrom, .int mto, .int msort, .int misFault, .int mdeep, .int mcoded, .int mlines, .ref nl, .ref nc, .ref nF, .ref np, .ref ntr, .ref nb, .int mbestCost, .ref nso, .ref nsi, .ref nit, .ref nsh, .ref nsf, .ref nss, .ref nrc, .int (nI jr16225), .int 0, .int mnumber, .int mwhose, .int msize, .int ip16226])), (nrc, .inl (G.2.1, 30, .inl gtrc6227))] H := hP
    have hD : va_D A [(h0, .inr (12, [.ref nw, .ref nk, .int mhasKept, .ref nt, .int mtaped, .ref nr, .int mrowMany, .int mroundOf, .int mroundFrom, .int mouts, .ref nm, .int mfromHour, .int mtoHour, .ref ns, .int mfrom, .int mto, .int msort, .int misFault, .int mdeep, .int mcoded, .int mlines, .ref nl, .ref nc, .ref nF, .ref np, .ref ntr, .ref nb, .int mbestCost, .ref nso, .ref nsi, .ref nit, .ref nsh, .ref nsf, .ref nss, .ref nrc, .int (nI jr16225), .int 0, .int mnumber, .int mwhose, .int msize, .int ip16226])), (nrc, .inl (G.2.1, 30, .inl gtrc6227))] := hD
    obtain ⟨hr6223, w6228⟩ := hr6223
    exact RI (v := r6223) hC hP hD hS [0, 1] (jr16225, ip16226, gtrc6227) rfl rfl (by decide) (⟨trivial, by omega⟩) rfl dX12_dealt_10
  · refine iV (wr := []) hC hK hl hP hD hS hA (m_from11 l G h0 xx nw nk mhasKept nt mtaped nr mrowMany mroundOf mroundFrom mouts nm mfromHour mtoHour ns mfrom mto msort misFault mdeep mcoded mlines nl nc nF np ntr nb mbestCost nso nsi nit nsh nsf nss nrc jr 1 mnumber mwhose msize misParted fnrc (by omega) (by omega)) si_X12_357 [0, 1] [] rfl rfl (by decide) rfl (by decide) (by decide) rfl rfl rfl rfl rfl (Nat.le_of_ble_eq_true rfl) ⟨Nat.le_of_ble_eq_true rfl, Nat.le_of_ble_eq_true rfl⟩ ⟨Nat.le_of_ble_eq_true rfl, Nat.le_of_ble_eq_true rfl⟩ dX12_dealt_7 (fun r6229 u6230 H locs hr6229 hP hD hS => ?_)
    obtain ⟨jr16231, ip16232, gtrc6233⟩ := u6230
    try dsimp only at hr6229
    have hP : va_P G.1 vwCl [(h0, .inr (12, [.ref nw, .ref nk, .int mhasKept, .ref nt, .int mtaped, .ref nr, .int mrowMany, .int mroundOf, .int mroundFrom, .int mouts, .ref nm, .int mfromHour, .int mtoHour, .ref ns, .int mfrom, .int mto, .int msort, .int misFault, .int mdeep, .int mcoded, .int mlines, .ref nl, .ref nc, .ref nF, .ref np, .ref ntr, .ref nb, .int mbestCost, .ref nso, .ref nsi, .ref nit, .ref nsh, .ref nsf, .ref nss, .ref nrc, .int (nI jr16231), .int 1, .int mnumber, .int mwhose, .int msize, .int ip16232])), (nrc, .inl (G.2.1, 30, .inl gtrc6233))] H := hP
    have hD : va_D A [(h0, .inr (12, [.ref nw, .ref nk, .int mhasKept, .ref nt, .int mtaped, .ref nr, .int mrowMany, .int mroundOf, .int mroundFrom, .int mouts, .ref nm, .int mfromHour, .int mtoHour, .ref ns, .int mfrom, .int mto, .int msort, .int misFault, .int mdeep, .int mcoded, .int mlines, .ref nl, .ref nc, .ref nF, .ref np, .ref ntr, .ref nb, .int mbestCost, .ref nso, .ref nsi, .ref nit, .ref nsh, .ref nsf, .ref nss, .ref nrc, .int (nI jr16231), .int 1, .int mnumber, .int mwhose, .int msize, .int ip16232])), (nrc, .inl (G.2.1, 30, .inl gtrc6233))] := hD
    obtain ⟨hr6229, w6234⟩ := hr6229
    exact RI (v := r6229) hC hP hD hS [0, 1] (jr16231, ip16232, gtrc6233) rfl rfl (by decide) (⟨trivial, by omega⟩) rfl dX12_dealt_10
  · refine iV (wr := []) hC hK hl hP hD hS hA (m_from21 l G h0 xx nw nk mhasKept nt mtaped nr mrowMany mroundOf mroundFrom mouts nm mfromHour mtoHour ns mfrom mto msort misFault mdeep mcoded mlines nl nc nF np ntr nb mbestCost nso nsi nit nsh nsf nss nrc jr 2 mnumber mwhose msize misParted fnrc (by omega) (by omega)) si_X12_357 [0, 1] [] rfl rfl (by decide) rfl (by decide) (by decide) rfl rfl rfl rfl rfl (Nat.le_of_ble_eq_true rfl) ⟨Nat.le_of_ble_eq_true rfl, Nat.le_of_ble_eq_true rfl⟩ ⟨Nat.le_of_ble_eq_true rfl, Nat.le_of_ble_eq_true rfl⟩ dX12_dealt_7 (fun r6235 u6236 H locs hr6235 hP hD hS => ?_)
    obtain ⟨jr16237, ip16238, gtrc6239⟩ := u6236
    try dsimp only at hr6235
    have hP : va_P G.1 vwCl [(h0, .inr (12, [.ref nw, .ref nk, .int mhasKept, .ref nt, .int mtaped, .ref nr, .int mrowMany, .int mroundOf, .int mroundFrom, .int mouts, .ref nm, .int mfromHour, .int mtoHour, .ref ns, .int mfrom, .int mto, .int msort, .int misFault, .int mdeep, .int mcoded, .int mlines, .ref nl, .ref nc, .ref nF, .ref np, .ref ntr, .ref nb, .int mbestCost, .ref nso, .ref nsi, .ref nit, .ref nsh, .ref nsf, .ref nss, .ref nrc, .int (nI jr16237), .int 2, .int mnumber, .int mwhose, .int msize, .int ip16238])), (nrc, .inl (G.2.1, 30, .inl gtrc6239))] H := hP
    have hD : va_D A [(h0, .inr (12, [.ref nw, .ref nk, .int mhasKept, .ref nt, .int mtaped, .ref nr, .int mrowMany, .int mroundOf, .int mroundFrom, .int mouts, .ref nm, .int mfromHour, .int mtoHour, .ref ns, .int mfrom, .int mto, .int msort, .int misFault, .int mdeep, .int mcoded, .int mlines, .ref nl, .ref nc, .ref nF, .ref np, .ref ntr, .ref nb, .int mbestCost, .ref nso, .ref nsi, .ref nit, .ref nsh, .ref nsf, .ref nss, .ref nrc, .int (nI jr16237), .int 2, .int mnumber, .int mwhose, .int msize, .int ip16238])), (nrc, .inl (G.2.1, 30, .inl gtrc6239))] := hD
    obtain ⟨hr6235, w6240⟩ := hr6235
    exact RI (v := r6235) hC hP hD hS [0, 1] (jr16237, ip16238, gtrc6239) rfl rfl (by decide) (⟨trivial, by omega⟩) rfl dX12_dealt_10
  · refine iV (wr := []) hC hK hl hP hD hS hA (m_from31 l G h0 xx nw nk mhasKept nt mtaped nr mrowMany mroundOf mroundFrom mouts nm mfromHour mtoHour ns mfrom mto msort misFault mdeep mcoded mlines nl nc nF np ntr nb mbestCost nso nsi nit nsh nsf nss nrc jr 3 mnumber mwhose msize misParted fnrc (by omega) (by omega)) si_X12_357 [0, 1] [] rfl rfl (by decide) rfl (by decide) (by decide) rfl rfl rfl rfl rfl (Nat.le_of_ble_eq_true rfl) ⟨Nat.le_of_ble_eq_true rfl, Nat.le_of_ble_eq_true rfl⟩ ⟨Nat.le_of_ble_eq_true rfl, Nat.le_of_ble_eq_true rfl⟩ dX12_dealt_7 (fun r6241 u6242 H locs hr6241 hP hD hS => ?_)
    obtain ⟨jr16243, ip16244, gtrc6245⟩ := u6242
    try dsimp only at hr6241
    have hP : va_P G.1 vwCl [(h0, .inr (12, [.ref nw, .ref nk, .int mhasKept, .ref nt, .int mtaped, .ref nr, .int mrowMany, .int mroundOf, .int mroundFrom, .int mouts, .ref nm, .int mfromHour, .int mtoHour, .ref ns, .int mfrom, .int mto, .int msort, .int misFault, .int mdeep, .int mcoded, .int mlines, .ref nl, .ref nc, .ref nF, .ref np, .ref ntr, .ref nb, .int mbestCost, .ref nso, .ref nsi, .ref nit, .ref nsh, .ref nsf, .ref nss, .ref nrc, .int (nI jr16243), .int 3, .int mnumber, .int mwhose, .int msize, .int ip16244])), (nrc, .inl (G.2.1, 30, .inl gtrc6245))] H := hP
    have hD : va_D A [(h0, .inr (12, [.ref nw, .ref nk, .int mhasKept, .ref nt, .int mtaped, .ref nr, .int mrowMany, .int mroundOf, .int mroundFrom, .int mouts, .ref nm, .int mfromHour, .int mtoHour, .ref ns, .int mfrom, .int mto, .int msort, .int misFault, .int mdeep, .int mcoded, .int mlines, .ref nl, .ref nc, .ref nF, .ref np, .ref ntr, .ref nb, .int mbestCost, .ref nso, .ref nsi, .ref nit, .ref nsh, .ref nsf, .ref nss, .ref nrc, .int (nI jr16243), .int 3, .int mnumber, .int mwhose, .int msize, .int ip16244])), (nrc, .inl (G.2.1, 30, .inl gtrc6245))] := hD
    obtain ⟨hr6241, w6246⟩ := hr6241
    exact RI (v := r6241) hC hP hD hS [0, 1] (jr16243, ip16244, gtrc6245) rfl rfl (by decide) (⟨trivial, by omega⟩) rfl dX12_dealt_10
  · refine iV (wr := []) hC hK hl hP hD hS hA (m_from41 l G h0 xx nw nk mhasKept nt mtaped nr mrowMany mroundOf mroundFrom mouts nm mfromHour mtoHour ns mfrom mto msort misFault mdeep mcoded mlines nl nc nF np ntr nb mbestCost nso nsi nit nsh nsf nss nrc jr 4 mnumber mwhose msize misParted fnrc (by omega) (by omega)) si_X12_357 [0, 1] [] rfl rfl (by decide) rfl (by decide) (by decide) rfl rfl rfl rfl rfl (Nat.le_of_ble_eq_true rfl) ⟨Nat.le_of_ble_eq_true rfl, Nat.le_of_ble_eq_true rfl⟩ ⟨Nat.le_of_ble_eq_true rfl, Nat.le_of_ble_eq_true rfl⟩ dX12_dealt_7 (fun r6247 u6248 H locs hr6247 hP hD hS => ?_)
    obtain ⟨jr16249, ip16250, gtrc6251⟩ := u6248
    try dsimp only at hr6247
    have hP : va_P G.1 vwCl [(h0, .inr (12, [.ref nw, .ref nk, .int mhasKept, .ref nt, .int mtaped, .ref nr, .int mrowMany, .int mroundOf, .int mroundFrom, .int mouts, .ref nm, .int mfromHour, .int mtoHour, .ref ns, .int mfrom, .int mto, .int msort, .int misFault, .int mdeep, .int mcoded, .int mlines, .ref nl, .ref nc, .ref nF, .ref np, .ref ntr, .ref nb, .int mbestCost, .ref nso, .ref nsi, .ref nit, .ref nsh, .ref nsf, .ref nss, .ref nrc, .int (nI jr16249), .int 4, .int mnumber, .int mwhose, .int msize, .int ip16250])), (nrc, .inl (G.2.1, 30, .inl gtrc6251))] H := hP
    have hD : va_D A [(h0, .inr (12, [.ref nw, .ref nk, .int mhasKept, .ref nt, .int mtaped, .ref nr, .int mrowMany, .int mroundOf, .int mroundFrom, .int mouts, .ref nm, .int mfromHour, .int mtoHour, .ref ns, .int mfrom, .int mto, .int msort, .int misFault, .int mdeep, .int mcoded, .int mlines, .ref nl, .ref nc, .ref nF, .ref np, .ref ntr, .ref nb, .int mbestCost, .ref nso, .ref nsi, .ref nit, .ref nsh, .ref nsf, .ref nss, .ref nrc, .int (nI jr16249), .int 4, .int mnumber, .int mwhose, .int msize, .int ip16250])), (nrc, .inl (G.2.1, 30, .inl gtrc6251))] := hD
    obtain ⟨hr6247, w6252⟩ := hr6247
    exact RI (v := r6247) hC hP hD hS [0, 1] (jr16249, ip16250, gtrc6251) rfl rfl (by decide) (⟨trivial, by omega⟩) rfl dX12_dealt_10
  · refine iV (wr := []) hC hK hl hP hD hS hA (m_from51 l G h0 xx nw nk mhasKept nt mtaped nr mrowMany mroundOf mroundFrom mouts nm mfromHour mtoHour ns mfrom mto msort misFault mdeep mcoded mlines nl nc nF np ntr nb mbestCost nso nsi nit nsh nsf nss nrc jr 5 mnumber mwhose msize misParted fnrc (by omega) (by omega)) si_X12_357 [0, 1] [] rfl rfl (by decide) rfl (by decide) (by decide) rfl rfl rfl rfl rfl (Nat.le_of_ble_eq_true rfl) ⟨Nat.le_of_ble_eq_true rfl, Nat.le_of_ble_eq_true rfl⟩ ⟨Nat.le_of_ble_eq_true rfl, Nat.le_of_ble_eq_true rfl⟩ dX12_dealt_7 (fun r6253 u6254 H locs hr6253 hP hD hS => ?_)
    obtain ⟨jr16255, ip16256, gtrc6257⟩ := u6254
    try dsimp only at hr6253
    have hP : va_P G.1 vwCl [(h0, .inr (12, [.ref nw, .ref nk, .int mhasKept, .ref nt, .int mtaped, .ref nr, .int mrowMany, .int mroundOf, .int mroundFrom, .int mouts, .ref nm, .int mfromHour, .int mtoHour, .ref ns, .int mfrom, .int mto, .int msort, .int misFault, .int mdeep, .int mcoded, .int mlines, .ref nl, .ref nc, .ref nF, .ref np, .ref ntr, .ref nb, .int mbestCost, .ref nso, .ref nsi, .ref nit, .ref nsh, .ref nsf, .ref nss, .ref nrc, .int (nI jr16255), .int 5, .int mnumber, .int mwhose, .int msize, .int ip16256])), (nrc, .inl (G.2.1, 30, .inl gtrc6257))] H := hP
    have hD : va_D A [(h0, .inr (12, [.ref nw, .ref nk, .int mhasKept, .ref nt, .int mtaped, .ref nr, .int mrowMany, .int mroundOf, .int mroundFrom, .int mouts, .ref nm, .int mfromHour, .int mtoHour, .ref ns, .int mfrom, .int mto, .int msort, .int misFault, .int mdeep, .int mcoded, .int mlines, .ref nl, .ref nc, .ref nF, .ref np, .ref ntr, .ref nb, .int mbestCost, .ref nso, .ref nsi, .ref nit, .ref nsh, .ref nsf, .ref nss, .ref nrc, .int (nI jr16255), .int 5, .int mnumber, .int mwhose, .int msize, .int ip16256])), (nrc, .inl (G.2.1, 30, .inl gtrc6257))] := hD
    obtain ⟨hr6253, w6258⟩ := hr6253
    exact RI (v := r6253) hC hP hD hS [0, 1] (jr16255, ip16256, gtrc6257) rfl rfl (by decide) (⟨trivial, by omega⟩) rfl dX12_dealt_10
  · refine iV (wr := []) hC hK hl hP hD hS hA (m_from61 l G h0 xx nw nk mhasKept nt mtaped nr mrowMany mroundOf mroundFrom mouts nm mfromHour mtoHour ns mfrom mto msort misFault mdeep mcoded mlines nl nc nF np ntr nb mbestCost nso nsi nit nsh nsf nss nrc jr 6 mnumber mwhose msize misParted fnrc (by omega) (by omega)) si_X12_357 [0, 1] [] rfl rfl (by decide) rfl (by decide) (by decide) rfl rfl rfl rfl rfl (Nat.le_of_ble_eq_true rfl) ⟨Nat.le_of_ble_eq_true rfl, Nat.le_of_ble_eq_true rfl⟩ ⟨Nat.le_of_ble_eq_true rfl, Nat.le_of_ble_eq_true rfl⟩ dX12_dealt_7 (fun r6259 u6260 H locs hr6259 hP hD hS => ?_)
    obtain ⟨jr16261, ip16262, gtrc6263⟩ := u6260
    try dsimp only at hr6259
    have hP : va_P G.1 vwCl [(h0, .inr (12, [.ref nw, .ref nk, .int mhasKept, .ref nt, .int mtaped, .ref nr, .int mrowMany, .int mroundOf, .int mroundFrom, .int mouts, .ref nm, .int mfromHour, .int mtoHour, .ref ns, .int mfrom, .int mto, .int msort, .int misFault, .int mdeep, .int mcoded, .int mlines, .ref nl, .ref nc, .ref nF, .ref np, .ref ntr, .ref nb, .int mbestCost, .ref nso, .ref nsi, .ref nit, .ref nsh, .ref nsf, .ref nss, .ref nrc, .int (nI jr16261), .int 6, .int mnumber, .int mwhose, .int msize, .int ip16262])), (nrc, .inl (G.2.1, 30, .inl gtrc6263))] H := hP
    have hD : va_D A [(h0, .inr (12, [.ref nw, .ref nk, .int mhasKept, .ref nt, .int mtaped, .ref nr, .int mrowMany, .int mroundOf, .int mroundFrom, .int mouts, .ref nm, .int mfromHour, .int mtoHour, .ref ns, .int mfrom, .int mto, .int msort, .int misFault, .int mdeep, .int mcoded, .int mlines, .ref nl, .ref nc, .ref nF, .ref np, .ref ntr, .ref nb, .int mbestCost, .ref nso, .ref nsi, .ref nit, .ref nsh, .ref nsf, .ref nss, .ref nrc, .int (nI jr16261), .int 6, .int mnumber, .int mwhose, .int msize, .int ip16262])), (nrc, .inl (G.2.1, 30, .inl gtrc6263))] := hD
    obtain ⟨hr6259, w6264⟩ := hr6259
    exact RI (v := r6259) hC hP hD hS [0, 1] (jr16261, ip16262, gtrc6263) rfl rfl (by decide) (⟨trivial, by omega⟩) rfl dX12_dealt_10
set_option maxHeartbeats 4000000 in
set_option maxRecDepth 100000 in
theorem m_body02 (l : Launch) (G : GG) (h0 : Nat) (xx : Int32) (nw : Nat) (nk : Nat) (mhasKept : Int32) (nt : Nat) (mtaped : Int32) (nr : Nat) (mrowMany : Int32) (mroundOf : Int32) (mroundFrom : Int32) (mouts : Int32) (nm : Nat) (mfromHour : Int32) (mtoHour : Int32) (ns : Nat) (mfrom : Int32) (mto : Int32) (msort : Int32) (misFault : Int32) (mdeep : Int32) (mcoded : Int32) (mlines : Int32) (nl : Nat) (nc : Nat) (nF : Nat) (np : Nat) (ntr : Nat) (nb : Nat) (mbestCost : Int32) (nso : Nat) (nsi : Nat) (nit : Nat) (nsh : Nat) (nsf : Nat) (nss : Nat) (nrc : Nat) (jr : Nat) (jd : Nat) (mnumber : Int32) (mwhose : Int32) (msize : Int32) (misParted : Int32) (fnrc : Nat → Int32) (hjr : jr ≤ 30) (hjd : jd < 7) : MI l G yX12_body cX12_body 6 (some .int) 27 0 0 [.ref h0, .int 0, .int 2, .int xx] [(h0, .inr (12, [.ref nw, .ref nk, .int mhasKept, .ref nt, .int mtaped, .ref nr, .int mrowMany, .int mroundOf, .int mroundFrom, .int mouts, .ref nm, .int mfromHour, .int mtoHour, .ref ns, .int mfrom, .int mto, .int msort, .int misFault, .int mdeep, .int mcoded, .int mlines, .ref nl, .ref nc, .ref nF, .ref np, .ref ntr, .ref nb, .int mbestCost, .ref nso, .ref nsi, .ref nit, .ref nsh, .ref nsf, .ref nss, .ref nrc, .int (nI jr), .int (nI jd), .int mnumber, .int mwhose, .int msize, .int misParted])), (nrc, .inl (G.2.1, 30, .inl fnrc))] (fun (r : Int32) (u : Nat × Int32 × (Nat → Int32)) => (True) ∧ (u.1 ≤ 30)) (fun u : Nat × Int32 × (Nat → Int32) => [(h0, .inr (12, [.ref nw, .ref nk, .int mhasKept, .ref nt, .int mtaped, .ref nr, .int mrowMany, .int mroundOf, .int mroundFrom, .int mouts, .ref nm, .int mfromHour, .int mtoHour, .ref ns, .int mfrom, .int mto, .int msort, .int misFault, .int mdeep, .int mcoded, .int mlines, .ref nl, .ref nc, .ref nF, .ref np, .ref ntr, .ref nb, .int mbestCost, .ref nso, .ref nsi, .ref nit, .ref nsh, .ref nsf, .ref nss, .ref nrc, .int (nI u.1), .int (nI jd), .int mnumber, .int mwhose, .int msize, .int u.2.1])), (nrc, .inl (G.2.1, 30, .inl u.2.2))]) := by
  refine MI.start (by decide +kernel) (Nat.le_of_ble_eq_true rfl) ?_
  intro p e s m below meth c A ls hC hK hP hD hS hA hl
  have hl : lv_has ls 6 [(0, .ref h0), (1, .int 0), (2, .int 2), (3, .int xx)] := hl
  obtain ⟨hx, hb, hr, hml, hB, hown, hlocks, hnm⟩ := id hC
  refine lv_iconst (v := 4) hx hb dX12_body_0 (by decide) ?_
  refine lv_iload_n hx hb dX12_body_1 rfl (lv_at hl 1 rfl) ?_
  refine lv_imul hx hb dX12_body_2 ?_
  refine eqi (x1 := 0) (by decide) ?_
  refine lv_iload_n hx hb dX12_body_3 rfl (lv_at hl 2 rfl) ?_
  refine lv_iadd hx hb dX12_body_4 ?_
  refine eqi (x1 := 2) (by decide) ?_
  refine lv_tableIn (tgt := 140) hx hb dX12_body_5 (by decide) (by decide) rfl (by decide) ?_
  refine lv_aload_n hx hb dX12_body_140 rfl (lv_at hl 0 rfl) ?_
  refine lv_bipush (v := 12) hx hb dX12_body_141 (by decide) ?_
  refine vV (wr := []) hC hK hl hP hD hS hA (m_began l G h0 12 nw nk mhasKept nt mtaped nr mrowMany mroundOf mroundFrom mouts nm mfromHour mtoHour ns mfrom mto msort misFault mdeep mcoded mlines nl nc nF np ntr nb mbestCost nso nsi nit nsh nsf nss nrc jr (nI jd) mnumber mwhose msize misParted fnrc (by omega)) si_X12_366 [0, 1] [] rfl rfl (by decide) rfl (by decide) (by decide) rfl rfl rfl rfl rfl (Nat.le_of_ble_eq_true rfl) ⟨Nat.le_of_ble_eq_true rfl, Nat.le_of_ble_eq_true rfl⟩ ⟨Nat.le_of_ble_eq_true rfl, Nat.le_of_ble_eq_true rfl⟩ dX12_body_143 (fun u6266 H locs hr6265 hP hD hS => ?_)
  obtain ⟨jr16267, gtrc6268⟩ := u6266
  try dsimp only at hr6265
  have hP : va_P G.1 vwCl [(h0, .inr (12, [.ref nw, .ref nk, .int mhasKept, .ref nt, .int mtaped, .ref nr, .int mrowMany, .int mroundOf, .int mroundFrom, .int mouts, .ref nm, .int mfromHour, .int mtoHour, .ref ns, .int mfrom, .int mto, .int msort, .int misFault, .int mdeep, .int mcoded, .int mlines, .ref nl, .ref nc, .ref nF, .ref np, .ref ntr, .ref nb, .int mbestCost, .ref nso, .ref nsi, .ref nit, .ref nsh, .ref nsf, .ref nss, .ref nrc, .int (nI jr16267), .int (nI jd), .int mnumber, .int mwhose, .int msize, .int misParted])), (nrc, .inl (G.2.1, 30, .inl gtrc6268))] H := hP
  have hD : va_D A [(h0, .inr (12, [.ref nw, .ref nk, .int mhasKept, .ref nt, .int mtaped, .ref nr, .int mrowMany, .int mroundOf, .int mroundFrom, .int mouts, .ref nm, .int mfromHour, .int mtoHour, .ref ns, .int mfrom, .int mto, .int msort, .int misFault, .int mdeep, .int mcoded, .int mlines, .ref nl, .ref nc, .ref nF, .ref np, .ref ntr, .ref nb, .int mbestCost, .ref nso, .ref nsi, .ref nit, .ref nsh, .ref nsf, .ref nss, .ref nrc, .int (nI jr16267), .int (nI jd), .int mnumber, .int mwhose, .int msize, .int misParted])), (nrc, .inl (G.2.1, 30, .inl gtrc6268))] := hD
  have w6269 := hr6265
  refine lv_aload_n hx hb dX12_body_146 rfl (lv_at hl 0 rfl) ?_
  refine lv_iconst (v := 1) hx hb dX12_body_147 (by decide) ?_
  refine lv_iload_n hx hb dX12_body_148 rfl (lv_at hl 3 rfl) ?_
  refine iV (wr := []) hC hK hl hP hD hS hA (m_dealt1 l G h0 xx nw nk mhasKept nt mtaped nr mrowMany mroundOf mroundFrom mouts nm mfromHour mtoHour ns mfrom mto msort misFault mdeep mcoded mlines nl nc nF np ntr nb mbestCost nso nsi nit nsh nsf nss nrc jr16267 jd mnumber mwhose msize misParted gtrc6268 (by omega) (by omega)) si_X12_372 [0, 1] [] rfl rfl (by decide) rfl (by decide) (by decide) rfl rfl rfl rfl rfl (Nat.le_of_ble_eq_true rfl) ⟨Nat.le_of_ble_eq_true rfl, Nat.le_of_ble_eq_true rfl⟩ ⟨Nat.le_of_ble_eq_true rfl, Nat.le_of_ble_eq_true rfl⟩ dX12_body_149 (fun r6270 u6271 H locs hr6270 hP hD hS => ?_)
  obtain ⟨jr16272, ip16273, gtrc6274⟩ := u6271
  try dsimp only at hr6270
  have hP : va_P G.1 vwCl [(h0, .inr (12, [.ref nw, .ref nk, .int mhasKept, .ref nt, .int mtaped, .ref nr, .int mrowMany, .int mroundOf, .int mroundFrom, .int mouts, .ref nm, .int mfromHour, .int mtoHour, .ref ns, .int mfrom, .int mto, .int msort, .int misFault, .int mdeep, .int mcoded, .int mlines, .ref nl, .ref nc, .ref nF, .ref np, .ref ntr, .ref nb, .int mbestCost, .ref nso, .ref nsi, .ref nit, .ref nsh, .ref nsf, .ref nss, .ref nrc, .int (nI jr16272), .int (nI jd), .int mnumber, .int mwhose, .int msize, .int ip16273])), (nrc, .inl (G.2.1, 30, .inl gtrc6274))] H := hP
  have hD : va_D A [(h0, .inr (12, [.ref nw, .ref nk, .int mhasKept, .ref nt, .int mtaped, .ref nr, .int mrowMany, .int mroundOf, .int mroundFrom, .int mouts, .ref nm, .int mfromHour, .int mtoHour, .ref ns, .int mfrom, .int mto, .int msort, .int misFault, .int mdeep, .int mcoded, .int mlines, .ref nl, .ref nc, .ref nF, .ref np, .ref ntr, .ref nb, .int mbestCost, .ref nso, .ref nsi, .ref nit, .ref nsh, .ref nsf, .ref nss, .ref nrc, .int (nI jr16272), .int (nI jd), .int mnumber, .int mwhose, .int msize, .int ip16273])), (nrc, .inl (G.2.1, 30, .inl gtrc6274))] := hD
  obtain ⟨hr6270, w6275⟩ := hr6270
  refine lv_aload_n hx hb dX12_body_152 rfl (lv_at hl 0 rfl) ?_
  refine gf_X12_375 hC rfl hK hP 0 rfl rfl dX12_body_153 ?_
  refine lv_isub hx hb dX12_body_156 ?_
  exact RI (v := r6270 - mwhose) hC hP hD hS [0, 1] (jr16272, ip16273, gtrc6274) rfl rfl (by decide) (⟨trivial, by omega⟩) rfl dX12_body_157
set_option maxHeartbeats 4000000 in
set_option maxRecDepth 100000 in
theorem m_from02 (l : Launch) (G : GG) (h0 : Nat) (xx : Int32) (nw : Nat) (nk : Nat) (mhasKept : Int32) (nt : Nat) (mtaped : Int32) (nr : Nat) (mrowMany : Int32) (mroundOf : Int32) (mroundFrom : Int32) (mouts : Int32) (nm : Nat) (mfromHour : Int32) (mtoHour : Int32) (ns : Nat) (mfrom : Int32) (mto : Int32) (msort : Int32) (misFault : Int32) (mdeep : Int32) (mcoded : Int32) (mlines : Int32) (nl : Nat) (nc : Nat) (nF : Nat) (np : Nat) (ntr : Nat) (nb : Nat) (mbestCost : Int32) (nso : Nat) (nsi : Nat) (nit : Nat) (nsh : Nat) (nsf : Nat) (nss : Nat) (nrc : Nat) (jr : Nat) (jd : Nat) (mnumber : Int32) (mwhose : Int32) (msize : Int32) (misParted : Int32) (fnrc : Nat → Int32) (hjr : jr ≤ 30) (hjd : jd < 7) : MI l G yX12_bodyFrom cX12_bodyFrom 5 (some .int) 28 0 0 [.ref h0, .int 0, .int 2, .int xx] [(h0, .inr (12, [.ref nw, .ref nk, .int mhasKept, .ref nt, .int mtaped, .ref nr, .int mrowMany, .int mroundOf, .int mroundFrom, .int mouts, .ref nm, .int mfromHour, .int mtoHour, .ref ns, .int mfrom, .int mto, .int msort, .int misFault, .int mdeep, .int mcoded, .int mlines, .ref nl, .ref nc, .ref nF, .ref np, .ref ntr, .ref nb, .int mbestCost, .ref nso, .ref nsi, .ref nit, .ref nsh, .ref nsf, .ref nss, .ref nrc, .int (nI jr), .int (nI jd), .int mnumber, .int mwhose, .int msize, .int misParted])), (nrc, .inl (G.2.1, 30, .inl fnrc))] (fun (r : Int32) (u : Nat × Int32 × (Nat → Int32)) => (True) ∧ (u.1 ≤ 30)) (fun u : Nat × Int32 × (Nat → Int32) => [(h0, .inr (12, [.ref nw, .ref nk, .int mhasKept, .ref nt, .int mtaped, .ref nr, .int mrowMany, .int mroundOf, .int mroundFrom, .int mouts, .ref nm, .int mfromHour, .int mtoHour, .ref ns, .int mfrom, .int mto, .int msort, .int misFault, .int mdeep, .int mcoded, .int mlines, .ref nl, .ref nc, .ref nF, .ref np, .ref ntr, .ref nb, .int mbestCost, .ref nso, .ref nsi, .ref nit, .ref nsh, .ref nsf, .ref nss, .ref nrc, .int (nI u.1), .int (nI jd), .int mnumber, .int mwhose, .int msize, .int u.2.1])), (nrc, .inl (G.2.1, 30, .inl u.2.2))]) := by
  refine MI.start (by decide +kernel) (Nat.le_of_ble_eq_true rfl) ?_
  intro p e s m below meth c A ls hC hK hP hD hS hA hl
  have hl : lv_has ls 5 [(0, .ref h0), (1, .int 0), (2, .int 2), (3, .int xx)] := hl
  obtain ⟨hx, hb, hr, hml, hB, hown, hlocks, hnm⟩ := id hC
  refine lv_iload_n hx hb dX12_bodyFrom_0 rfl (lv_at hl 1 rfl) ?_
  refine lv_istore (lv' := [(4, .int 0), (0, .ref h0), (1, .int 0), (2, .int 2), (3, .int xx)]) hx hb dX12_bodyFrom_1 hl (by decide) rfl (fun ls hl => ?_)
  refine lv_iload hx hb dX12_bodyFrom_3 (lv_at hl 0 rfl) ?_
  refine lv_iload_n hx hb dX12_bodyFrom_5 rfl (lv_at hl 3 rfl) ?_
  refine pS hC hK hl (m_hasOwn02 l G) si_X12_360 rfl rfl (Nat.le_of_ble_eq_true rfl) ⟨Nat.le_of_ble_eq_true rfl, Nat.le_of_ble_eq_true rfl⟩ ⟨by first | exact Nat.le_of_ble_eq_true rfl | exact Nat.zero_le _, by first | exact Nat.le_of_ble_eq_true rfl | exact Nat.zero_le _⟩ dX12_bodyFrom_6 (fun r6276 hr6276 => ?_)
  obtain rfl := hr6276
  refine lv_if_ne (tgt := 22) hx hb dX12_bodyFrom_9 (by decide) (fun _ => ?_) (fun c9 => absurd c9 (by decide))
  refine lv_aload_n hx hb dX12_bodyFrom_22 rfl (lv_at hl 1 rfl) ?_
  refine lv_iload hx hb dX12_bodyFrom_23 (lv_at hl 0 rfl) ?_
  refine lv_iload_n hx hb dX12_bodyFrom_25 rfl (lv_at hl 3 rfl) ?_
  refine lv_iload_n hx hb dX12_bodyFrom_26 rfl (lv_at hl 4 rfl) ?_
  refine iV (wr := []) hC hK hl hP hD hS hA (m_body02 l G h0 xx nw nk mhasKept nt mtaped nr mrowMany mroundOf mroundFrom mouts nm mfromHour mtoHour ns mfrom mto msort misFault mdeep mcoded mlines nl nc nF np ntr nb mbestCost nso nsi nit nsh nsf nss nrc jr jd mnumber mwhose msize misParted fnrc (by omega) (by omega)) si_X12_363 [0, 1] [] rfl rfl (by decide) rfl (by decide) (by decide) rfl rfl rfl rfl rfl (Nat.le_of_ble_eq_true rfl) ⟨Nat.le_of_ble_eq_true rfl, Nat.le_of_ble_eq_true rfl⟩ ⟨Nat.le_of_ble_eq_true rfl, Nat.le_of_ble_eq_true rfl⟩ dX12_bodyFrom_27 (fun r6278 u6279 H locs hr6278 hP hD hS => ?_)
  obtain ⟨jr16280, ip16281, gtrc6282⟩ := u6279
  try dsimp only at hr6278
  have hP : va_P G.1 vwCl [(h0, .inr (12, [.ref nw, .ref nk, .int mhasKept, .ref nt, .int mtaped, .ref nr, .int mrowMany, .int mroundOf, .int mroundFrom, .int mouts, .ref nm, .int mfromHour, .int mtoHour, .ref ns, .int mfrom, .int mto, .int msort, .int misFault, .int mdeep, .int mcoded, .int mlines, .ref nl, .ref nc, .ref nF, .ref np, .ref ntr, .ref nb, .int mbestCost, .ref nso, .ref nsi, .ref nit, .ref nsh, .ref nsf, .ref nss, .ref nrc, .int (nI jr16280), .int (nI jd), .int mnumber, .int mwhose, .int msize, .int ip16281])), (nrc, .inl (G.2.1, 30, .inl gtrc6282))] H := hP
  have hD : va_D A [(h0, .inr (12, [.ref nw, .ref nk, .int mhasKept, .ref nt, .int mtaped, .ref nr, .int mrowMany, .int mroundOf, .int mroundFrom, .int mouts, .ref nm, .int mfromHour, .int mtoHour, .ref ns, .int mfrom, .int mto, .int msort, .int misFault, .int mdeep, .int mcoded, .int mlines, .ref nl, .ref nc, .ref nF, .ref np, .ref ntr, .ref nb, .int mbestCost, .ref nso, .ref nsi, .ref nit, .ref nsh, .ref nsf, .ref nss, .ref nrc, .int (nI jr16280), .int (nI jd), .int mnumber, .int mwhose, .int msize, .int ip16281])), (nrc, .inl (G.2.1, 30, .inl gtrc6282))] := hD
  obtain ⟨hr6278, w6283⟩ := hr6278
  exact RI (v := r6278) hC hP hD hS [0, 1] (jr16280, ip16281, gtrc6282) rfl rfl (by decide) (⟨trivial, by omega⟩) rfl dX12_bodyFrom_30
set_option maxHeartbeats 4000000 in
set_option maxRecDepth 100000 in
theorem m_body22 (l : Launch) (G : GG) (h0 : Nat) (xx : Int32) (nw : Nat) (nk : Nat) (mhasKept : Int32) (nt : Nat) (mtaped : Int32) (nr : Nat) (mrowMany : Int32) (mroundOf : Int32) (mroundFrom : Int32) (mouts : Int32) (nm : Nat) (mfromHour : Int32) (mtoHour : Int32) (ns : Nat) (mfrom : Int32) (mto : Int32) (msort : Int32) (misFault : Int32) (mdeep : Int32) (mcoded : Int32) (mlines : Int32) (nl : Nat) (nc : Nat) (nF : Nat) (np : Nat) (ntr : Nat) (nb : Nat) (mbestCost : Int32) (nso : Nat) (nsi : Nat) (nit : Nat) (nsh : Nat) (nsf : Nat) (nss : Nat) (nrc : Nat) (jr : Nat) (jd : Nat) (mnumber : Int32) (mwhose : Int32) (msize : Int32) (misParted : Int32) (fnrc : Nat → Int32) (hjr : jr ≤ 30) (hjd : jd < 7) : MI l G yX12_body cX12_body 6 (some .int) 29 0 0 [.ref h0, .int 2, .int 2, .int xx] [(h0, .inr (12, [.ref nw, .ref nk, .int mhasKept, .ref nt, .int mtaped, .ref nr, .int mrowMany, .int mroundOf, .int mroundFrom, .int mouts, .ref nm, .int mfromHour, .int mtoHour, .ref ns, .int mfrom, .int mto, .int msort, .int misFault, .int mdeep, .int mcoded, .int mlines, .ref nl, .ref nc, .ref nF, .ref np, .ref ntr, .ref nb, .int mbestCost, .ref nso, .ref nsi, .ref nit, .ref nsh, .ref nsf, .ref nss, .ref nrc, .int (nI jr), .int (nI jd), .int mnumber, .int mwhose, .int msize, .int misParted])), (nrc, .inl (G.2.1, 30, .inl fnrc))] (fun (r : Int32) (u : Nat × Int32 × (Nat → Int32)) => (True) ∧ (u.1 ≤ 30)) (fun u : Nat × Int32 × (Nat → Int32) => [(h0, .inr (12, [.ref nw, .ref nk, .int mhasKept, .ref nt, .int mtaped, .ref nr, .int mrowMany, .int mroundOf, .int mroundFrom, .int mouts, .ref nm, .int mfromHour, .int mtoHour, .ref ns, .int mfrom, .int mto, .int msort, .int misFault, .int mdeep, .int mcoded, .int mlines, .ref nl, .ref nc, .ref nF, .ref np, .ref ntr, .ref nb, .int mbestCost, .ref nso, .ref nsi, .ref nit, .ref nsh, .ref nsf, .ref nss, .ref nrc, .int (nI u.1), .int (nI jd), .int mnumber, .int mwhose, .int msize, .int u.2.1])), (nrc, .inl (G.2.1, 30, .inl u.2.2))]) := by
  refine MI.start (by decide +kernel) (Nat.le_of_ble_eq_true rfl) ?_
  intro p e s m below meth c A ls hC hK hP hD hS hA hl
  have hl : lv_has ls 6 [(0, .ref h0), (1, .int 2), (2, .int 2), (3, .int xx)] := hl
  obtain ⟨hx, hb, hr, hml, hB, hown, hlocks, hnm⟩ := id hC
  refine lv_iconst (v := 4) hx hb dX12_body_0 (by decide) ?_
  refine lv_iload_n hx hb dX12_body_1 rfl (lv_at hl 1 rfl) ?_
  refine lv_imul hx hb dX12_body_2 ?_
  refine eqi (x1 := 8) (by decide) ?_
  refine lv_iload_n hx hb dX12_body_3 rfl (lv_at hl 2 rfl) ?_
  refine lv_iadd hx hb dX12_body_4 ?_
  refine eqi (x1 := 10) (by decide) ?_
  refine lv_tableIn (tgt := 226) hx hb dX12_body_5 (by decide) (by decide) rfl (by decide) ?_
  refine lv_aload_n hx hb dX12_body_226 rfl (lv_at hl 0 rfl) ?_
  refine lv_bipush (v := 30) hx hb dX12_body_227 (by decide) ?_
  refine vV (wr := []) hC hK hl hP hD hS hA (m_began l G h0 30 nw nk mhasKept nt mtaped nr mrowMany mroundOf mroundFrom mouts nm mfromHour mtoHour ns mfrom mto msort misFault mdeep mcoded mlines nl nc nF np ntr nb mbestCost nso nsi nit nsh nsf nss nrc jr (nI jd) mnumber mwhose msize misParted fnrc (by omega)) si_X12_366 [0, 1] [] rfl rfl (by decide) rfl (by decide) (by decide) rfl rfl rfl rfl rfl (Nat.le_of_ble_eq_true rfl) ⟨Nat.le_of_ble_eq_true rfl, Nat.le_of_ble_eq_true rfl⟩ ⟨Nat.le_of_ble_eq_true rfl, Nat.le_of_ble_eq_true rfl⟩ dX12_body_229 (fun u6285 H locs hr6284 hP hD hS => ?_)
  obtain ⟨jr16286, gtrc6287⟩ := u6285
  try dsimp only at hr6284
  have hP : va_P G.1 vwCl [(h0, .inr (12, [.ref nw, .ref nk, .int mhasKept, .ref nt, .int mtaped, .ref nr, .int mrowMany, .int mroundOf, .int mroundFrom, .int mouts, .ref nm, .int mfromHour, .int mtoHour, .ref ns, .int mfrom, .int mto, .int msort, .int misFault, .int mdeep, .int mcoded, .int mlines, .ref nl, .ref nc, .ref nF, .ref np, .ref ntr, .ref nb, .int mbestCost, .ref nso, .ref nsi, .ref nit, .ref nsh, .ref nsf, .ref nss, .ref nrc, .int (nI jr16286), .int (nI jd), .int mnumber, .int mwhose, .int msize, .int misParted])), (nrc, .inl (G.2.1, 30, .inl gtrc6287))] H := hP
  have hD : va_D A [(h0, .inr (12, [.ref nw, .ref nk, .int mhasKept, .ref nt, .int mtaped, .ref nr, .int mrowMany, .int mroundOf, .int mroundFrom, .int mouts, .ref nm, .int mfromHour, .int mtoHour, .ref ns, .int mfrom, .int mto, .int msort, .int misFault, .int mdeep, .int mcoded, .int mlines, .ref nl, .ref nc, .ref nF, .ref np, .ref ntr, .ref nb, .int mbestCost, .ref nso, .ref nsi, .ref nit, .ref nsh, .ref nsf, .ref nss, .ref nrc, .int (nI jr16286), .int (nI jd), .int mnumber, .int mwhose, .int msize, .int misParted])), (nrc, .inl (G.2.1, 30, .inl gtrc6287))] := hD
  have w6288 := hr6284
  refine lv_aload_n hx hb dX12_body_232 rfl (lv_at hl 0 rfl) ?_
  refine lv_iconst (v := 0) hx hb dX12_body_233 (by decide) ?_
  refine lv_iconst (v := 2) hx hb dX12_body_234 (by decide) ?_
  refine lv_iload_n hx hb dX12_body_235 rfl (lv_at hl 3 rfl) ?_
  refine iV (wr := []) hC hK hl hP hD hS hA (m_from02 l G h0 xx nw nk mhasKept nt mtaped nr mrowMany mroundOf mroundFrom mouts nm mfromHour mtoHour ns mfrom mto msort misFault mdeep mcoded mlines nl nc nF np ntr nb mbestCost nso nsi nit nsh nsf nss nrc jr16286 jd mnumber mwhose msize misParted gtrc6287 (by omega) (by omega)) si_X12_357 [0, 1] [] rfl rfl (by decide) rfl (by decide) (by decide) rfl rfl rfl rfl rfl (Nat.le_of_ble_eq_true rfl) ⟨Nat.le_of_ble_eq_true rfl, Nat.le_of_ble_eq_true rfl⟩ ⟨Nat.le_of_ble_eq_true rfl, Nat.le_of_ble_eq_true rfl⟩ dX12_body_236 (fun r6289 u6290 H locs hr6289 hP hD hS => ?_)
  obtain ⟨jr16291, ip16292, gtrc6293⟩ := u6290
  try dsimp only at hr6289
  have hP : va_P G.1 vwCl [(h0, .inr (12, [.ref nw, .ref nk, .int mhasKept, .ref nt, .int mtaped, .ref nr, .int mrowMany, .int mroundOf, .int mroundFrom, .int mouts, .ref nm, .int mfromHour, .int mtoHour, .ref ns, .int mfrom, .int mto, .int msort, .int misFault, .int mdeep, .int mcoded, .int mlines, .ref nl, .ref nc, .ref nF, .ref np, .ref ntr, .ref nb, .int mbestCost, .ref nso, .ref nsi, .ref nit, .ref nsh, .ref nsf, .ref nss, .ref nrc, .int (nI jr16291), .int (nI jd), .int mnumber, .int mwhose, .int msize, .int ip16292])), (nrc, .inl (G.2.1, 30, .inl gtrc6293))] H := hP
  have hD : va_D A [(h0, .inr (12, [.ref nw, .ref nk, .int mhasKept, .ref nt, .int mtaped, .ref nr, .int mrowMany, .int mroundOf, .int mroundFrom, .int mouts, .ref nm, .int mfromHour, .int mtoHour, .ref ns, .int mfrom, .int mto, .int msort, .int misFault, .int mdeep, .int mcoded, .int mlines, .ref nl, .ref nc, .ref nF, .ref np, .ref ntr, .ref nb, .int mbestCost, .ref nso, .ref nsi, .ref nit, .ref nsh, .ref nsf, .ref nss, .ref nrc, .int (nI jr16291), .int (nI jd), .int mnumber, .int mwhose, .int msize, .int ip16292])), (nrc, .inl (G.2.1, 30, .inl gtrc6293))] := hD
  obtain ⟨hr6289, w6294⟩ := hr6289
  refine lv_iconst (v := 3) hx hb dX12_body_239 (by decide) ?_
  refine lv_imul hx hb dX12_body_240 ?_
  exact RI (v := r6289 * 3) hC hP hD hS [0, 1] (jr16291, ip16292, gtrc6293) rfl rfl (by decide) (⟨trivial, by omega⟩) rfl dX12_body_241
set_option maxHeartbeats 4000000 in
set_option maxRecDepth 100000 in
theorem m_from22 (l : Launch) (G : GG) (h0 : Nat) (xx : Int32) (nw : Nat) (nk : Nat) (mhasKept : Int32) (nt : Nat) (mtaped : Int32) (nr : Nat) (mrowMany : Int32) (mroundOf : Int32) (mroundFrom : Int32) (mouts : Int32) (nm : Nat) (mfromHour : Int32) (mtoHour : Int32) (ns : Nat) (mfrom : Int32) (mto : Int32) (msort : Int32) (misFault : Int32) (mdeep : Int32) (mcoded : Int32) (mlines : Int32) (nl : Nat) (nc : Nat) (nF : Nat) (np : Nat) (ntr : Nat) (nb : Nat) (mbestCost : Int32) (nso : Nat) (nsi : Nat) (nit : Nat) (nsh : Nat) (nsf : Nat) (nss : Nat) (nrc : Nat) (jr : Nat) (jd : Nat) (mnumber : Int32) (mwhose : Int32) (msize : Int32) (misParted : Int32) (fnrc : Nat → Int32) (hjr : jr ≤ 30) (hjd : jd < 7) : MI l G yX12_bodyFrom cX12_bodyFrom 5 (some .int) 30 0 0 [.ref h0, .int 2, .int 2, .int xx] [(h0, .inr (12, [.ref nw, .ref nk, .int mhasKept, .ref nt, .int mtaped, .ref nr, .int mrowMany, .int mroundOf, .int mroundFrom, .int mouts, .ref nm, .int mfromHour, .int mtoHour, .ref ns, .int mfrom, .int mto, .int msort, .int misFault, .int mdeep, .int mcoded, .int mlines, .ref nl, .ref nc, .ref nF, .ref np, .ref ntr, .ref nb, .int mbestCost, .ref nso, .ref nsi, .ref nit, .ref nsh, .ref nsf, .ref nss, .ref nrc, .int (nI jr), .int (nI jd), .int mnumber, .int mwhose, .int msize, .int misParted])), (nrc, .inl (G.2.1, 30, .inl fnrc))] (fun (r : Int32) (u : Nat × Int32 × (Nat → Int32)) => (True) ∧ (u.1 ≤ 30)) (fun u : Nat × Int32 × (Nat → Int32) => [(h0, .inr (12, [.ref nw, .ref nk, .int mhasKept, .ref nt, .int mtaped, .ref nr, .int mrowMany, .int mroundOf, .int mroundFrom, .int mouts, .ref nm, .int mfromHour, .int mtoHour, .ref ns, .int mfrom, .int mto, .int msort, .int misFault, .int mdeep, .int mcoded, .int mlines, .ref nl, .ref nc, .ref nF, .ref np, .ref ntr, .ref nb, .int mbestCost, .ref nso, .ref nsi, .ref nit, .ref nsh, .ref nsf, .ref nss, .ref nrc, .int (nI u.1), .int (nI jd), .int mnumber, .int mwhose, .int msize, .int u.2.1])), (nrc, .inl (G.2.1, 30, .inl u.2.2))]) := by
  refine MI.start (by decide +kernel) (Nat.le_of_ble_eq_true rfl) ?_
  intro p e s m below meth c A ls hC hK hP hD hS hA hl
  have hl : lv_has ls 5 [(0, .ref h0), (1, .int 2), (2, .int 2), (3, .int xx)] := hl
  obtain ⟨hx, hb, hr, hml, hB, hown, hlocks, hnm⟩ := id hC
  refine lv_iload_n hx hb dX12_bodyFrom_0 rfl (lv_at hl 1 rfl) ?_
  refine lv_istore (lv' := [(4, .int 2), (0, .ref h0), (1, .int 2), (2, .int 2), (3, .int xx)]) hx hb dX12_bodyFrom_1 hl (by decide) rfl (fun ls hl => ?_)
  refine lv_iload hx hb dX12_bodyFrom_3 (lv_at hl 0 rfl) ?_
  refine lv_iload_n hx hb dX12_bodyFrom_5 rfl (lv_at hl 3 rfl) ?_
  refine pS hC hK hl (m_hasOwn22 l G) si_X12_360 rfl rfl (Nat.le_of_ble_eq_true rfl) ⟨Nat.le_of_ble_eq_true rfl, Nat.le_of_ble_eq_true rfl⟩ ⟨by first | exact Nat.le_of_ble_eq_true rfl | exact Nat.zero_le _, by first | exact Nat.le_of_ble_eq_true rfl | exact Nat.zero_le _⟩ dX12_bodyFrom_6 (fun r6295 hr6295 => ?_)
  obtain rfl := hr6295
  refine lv_if_ne (tgt := 22) hx hb dX12_bodyFrom_9 (by decide) (fun _ => ?_) (fun c9 => absurd c9 (by decide))
  refine lv_aload_n hx hb dX12_bodyFrom_22 rfl (lv_at hl 1 rfl) ?_
  refine lv_iload hx hb dX12_bodyFrom_23 (lv_at hl 0 rfl) ?_
  refine lv_iload_n hx hb dX12_bodyFrom_25 rfl (lv_at hl 3 rfl) ?_
  refine lv_iload_n hx hb dX12_bodyFrom_26 rfl (lv_at hl 4 rfl) ?_
  refine iV (wr := []) hC hK hl hP hD hS hA (m_body22 l G h0 xx nw nk mhasKept nt mtaped nr mrowMany mroundOf mroundFrom mouts nm mfromHour mtoHour ns mfrom mto msort misFault mdeep mcoded mlines nl nc nF np ntr nb mbestCost nso nsi nit nsh nsf nss nrc jr jd mnumber mwhose msize misParted fnrc (by omega) (by omega)) si_X12_363 [0, 1] [] rfl rfl (by decide) rfl (by decide) (by decide) rfl rfl rfl rfl rfl (Nat.le_of_ble_eq_true rfl) ⟨Nat.le_of_ble_eq_true rfl, Nat.le_of_ble_eq_true rfl⟩ ⟨Nat.le_of_ble_eq_true rfl, Nat.le_of_ble_eq_true rfl⟩ dX12_bodyFrom_27 (fun r6297 u6298 H locs hr6297 hP hD hS => ?_)
  obtain ⟨jr16299, ip16300, gtrc6301⟩ := u6298
  try dsimp only at hr6297
  have hP : va_P G.1 vwCl [(h0, .inr (12, [.ref nw, .ref nk, .int mhasKept, .ref nt, .int mtaped, .ref nr, .int mrowMany, .int mroundOf, .int mroundFrom, .int mouts, .ref nm, .int mfromHour, .int mtoHour, .ref ns, .int mfrom, .int mto, .int msort, .int misFault, .int mdeep, .int mcoded, .int mlines, .ref nl, .ref nc, .ref nF, .ref np, .ref ntr, .ref nb, .int mbestCost, .ref nso, .ref nsi, .ref nit, .ref nsh, .ref nsf, .ref nss, .ref nrc, .int (nI jr16299), .int (nI jd), .int mnumber, .int mwhose, .int msize, .int ip16300])), (nrc, .inl (G.2.1, 30, .inl gtrc6301))] H := hP
  have hD : va_D A [(h0, .inr (12, [.ref nw, .ref nk, .int mhasKept, .ref nt, .int mtaped, .ref nr, .int mrowMany, .int mroundOf, .int mroundFrom, .int mouts, .ref nm, .int mfromHour, .int mtoHour, .ref ns, .int mfrom, .int mto, .int msort, .int misFault, .int mdeep, .int mcoded, .int mlines, .ref nl, .ref nc, .ref nF, .ref np, .ref ntr, .ref nb, .int mbestCost, .ref nso, .ref nsi, .ref nit, .ref nsh, .ref nsf, .ref nss, .ref nrc, .int (nI jr16299), .int (nI jd), .int mnumber, .int mwhose, .int msize, .int ip16300])), (nrc, .inl (G.2.1, 30, .inl gtrc6301))] := hD
  obtain ⟨hr6297, w6302⟩ := hr6297
  exact RI (v := r6297) hC hP hD hS [0, 1] (jr16299, ip16300, gtrc6301) rfl rfl (by decide) (⟨trivial, by omega⟩) rfl dX12_bodyFrom_30
set_option maxHeartbeats 4000000 in
set_option maxRecDepth 100000 in
theorem m_body42 (l : Launch) (G : GG) (h0 : Nat) (xx : Int32) (nw : Nat) (nk : Nat) (mhasKept : Int32) (nt : Nat) (mtaped : Int32) (nr : Nat) (mrowMany : Int32) (mroundOf : Int32) (mroundFrom : Int32) (mouts : Int32) (nm : Nat) (mfromHour : Int32) (mtoHour : Int32) (ns : Nat) (mfrom : Int32) (mto : Int32) (msort : Int32) (misFault : Int32) (mdeep : Int32) (mcoded : Int32) (mlines : Int32) (nl : Nat) (nc : Nat) (nF : Nat) (np : Nat) (ntr : Nat) (nb : Nat) (mbestCost : Int32) (nso : Nat) (nsi : Nat) (nit : Nat) (nsh : Nat) (nsf : Nat) (nss : Nat) (nrc : Nat) (jr : Nat) (jd : Nat) (mnumber : Int32) (mwhose : Int32) (msize : Int32) (misParted : Int32) (fnrc : Nat → Int32) (hjr : jr ≤ 30) (hjd : jd < 7) : MI l G yX12_body cX12_body 6 (some .int) 31 0 0 [.ref h0, .int 4, .int 2, .int xx] [(h0, .inr (12, [.ref nw, .ref nk, .int mhasKept, .ref nt, .int mtaped, .ref nr, .int mrowMany, .int mroundOf, .int mroundFrom, .int mouts, .ref nm, .int mfromHour, .int mtoHour, .ref ns, .int mfrom, .int mto, .int msort, .int misFault, .int mdeep, .int mcoded, .int mlines, .ref nl, .ref nc, .ref nF, .ref np, .ref ntr, .ref nb, .int mbestCost, .ref nso, .ref nsi, .ref nit, .ref nsh, .ref nsf, .ref nss, .ref nrc, .int (nI jr), .int (nI jd), .int mnumber, .int mwhose, .int msize, .int misParted])), (nrc, .inl (G.2.1, 30, .inl fnrc))] (fun (r : Int32) (u : Nat × Int32 × (Nat → Int32)) => (True) ∧ (u.1 ≤ 30)) (fun u : Nat × Int32 × (Nat → Int32) => [(h0, .inr (12, [.ref nw, .ref nk, .int mhasKept, .ref nt, .int mtaped, .ref nr, .int mrowMany, .int mroundOf, .int mroundFrom, .int mouts, .ref nm, .int mfromHour, .int mtoHour, .ref ns, .int mfrom, .int mto, .int msort, .int misFault, .int mdeep, .int mcoded, .int mlines, .ref nl, .ref nc, .ref nF, .ref np, .ref ntr, .ref nb, .int mbestCost, .ref nso, .ref nsi, .ref nit, .ref nsh, .ref nsf, .ref nss, .ref nrc, .int (nI u.1), .int (nI jd), .int mnumber, .int mwhose, .int msize, .int u.2.1])), (nrc, .inl (G.2.1, 30, .inl u.2.2))]) := by
  refine MI.start (by decide +kernel) (Nat.le_of_ble_eq_true rfl) ?_
  intro p e s m below meth c A ls hC hK hP hD hS hA hl
  have hl : lv_has ls 6 [(0, .ref h0), (1, .int 4), (2, .int 2), (3, .int xx)] := hl
  obtain ⟨hx, hb, hr, hml, hB, hown, hlocks, hnm⟩ := id hC
  refine lv_iconst (v := 4) hx hb dX12_body_0 (by decide) ?_
  refine lv_iload_n hx hb dX12_body_1 rfl (lv_at hl 1 rfl) ?_
  refine lv_imul hx hb dX12_body_2 ?_
  refine eqi (x1 := 16) (by decide) ?_
  refine lv_iload_n hx hb dX12_body_3 rfl (lv_at hl 2 rfl) ?_
  refine lv_iadd hx hb dX12_body_4 ?_
  refine eqi (x1 := 18) (by decide) ?_
  refine lv_tableIn (tgt := 293) hx hb dX12_body_5 (by decide) (by decide) rfl (by decide) ?_
  refine lv_aload_n hx hb dX12_body_293 rfl (lv_at hl 0 rfl) ?_
  refine lv_bipush (v := 51) hx hb dX12_body_294 (by decide) ?_
  refine vV (wr := []) hC hK hl hP hD hS hA (m_began l G h0 51 nw nk mhasKept nt mtaped nr mrowMany mroundOf mroundFrom mouts nm mfromHour mtoHour ns mfrom mto msort misFault mdeep mcoded mlines nl nc nF np ntr nb mbestCost nso nsi nit nsh nsf nss nrc jr (nI jd) mnumber mwhose msize misParted fnrc (by omega)) si_X12_366 [0, 1] [] rfl rfl (by decide) rfl (by decide) (by decide) rfl rfl rfl rfl rfl (Nat.le_of_ble_eq_true rfl) ⟨Nat.le_of_ble_eq_true rfl, Nat.le_of_ble_eq_true rfl⟩ ⟨Nat.le_of_ble_eq_true rfl, Nat.le_of_ble_eq_true rfl⟩ dX12_body_296 (fun u6304 H locs hr6303 hP hD hS => ?_)
  obtain ⟨jr16305, gtrc6306⟩ := u6304
  try dsimp only at hr6303
  have hP : va_P G.1 vwCl [(h0, .inr (12, [.ref nw, .ref nk, .int mhasKept, .ref nt, .int mtaped, .ref nr, .int mrowMany, .int mroundOf, .int mroundFrom, .int mouts, .ref nm, .int mfromHour, .int mtoHour, .ref ns, .int mfrom, .int mto, .int msort, .int misFault, .int mdeep, .int mcoded, .int mlines, .ref nl, .ref nc, .ref nF, .ref np, .ref ntr, .ref nb, .int mbestCost, .ref nso, .ref nsi, .ref nit, .ref nsh, .ref nsf, .ref nss, .ref nrc, .int (nI jr16305), .int (nI jd), .int mnumber, .int mwhose, .int msize, .int misParted])), (nrc, .inl (G.2.1, 30, .inl gtrc6306))] H := hP
  have hD : va_D A [(h0, .inr (12, [.ref nw, .ref nk, .int mhasKept, .ref nt, .int mtaped, .ref nr, .int mrowMany, .int mroundOf, .int mroundFrom, .int mouts, .ref nm, .int mfromHour, .int mtoHour, .ref ns, .int mfrom, .int mto, .int msort, .int misFault, .int mdeep, .int mcoded, .int mlines, .ref nl, .ref nc, .ref nF, .ref np, .ref ntr, .ref nb, .int mbestCost, .ref nso, .ref nsi, .ref nit, .ref nsh, .ref nsf, .ref nss, .ref nrc, .int (nI jr16305), .int (nI jd), .int mnumber, .int mwhose, .int msize, .int misParted])), (nrc, .inl (G.2.1, 30, .inl gtrc6306))] := hD
  have w6307 := hr6303
  refine lv_aload_n hx hb dX12_body_299 rfl (lv_at hl 0 rfl) ?_
  refine lv_iconst (v := 0) hx hb dX12_body_300 (by decide) ?_
  refine lv_iconst (v := 2) hx hb dX12_body_301 (by decide) ?_
  refine lv_iload_n hx hb dX12_body_302 rfl (lv_at hl 3 rfl) ?_
  refine iV (wr := []) hC hK hl hP hD hS hA (m_from02 l G h0 xx nw nk mhasKept nt mtaped nr mrowMany mroundOf mroundFrom mouts nm mfromHour mtoHour ns mfrom mto msort misFault mdeep mcoded mlines nl nc nF np ntr nb mbestCost nso nsi nit nsh nsf nss nrc jr16305 jd mnumber mwhose msize misParted gtrc6306 (by omega) (by omega)) si_X12_357 [0, 1] [] rfl rfl (by decide) rfl (by decide) (by decide) rfl rfl rfl rfl rfl (Nat.le_of_ble_eq_true rfl) ⟨Nat.le_of_ble_eq_true rfl, Nat.le_of_ble_eq_true rfl⟩ ⟨Nat.le_of_ble_eq_true rfl, Nat.le_of_ble_eq_true rfl⟩ dX12_body_303 (fun r6308 u6309 H locs hr6308 hP hD hS => ?_)
  obtain ⟨jr16310, ip16311, gtrc6312⟩ := u6309
  try dsimp only at hr6308
  have hP : va_P G.1 vwCl [(h0, .inr (12, [.ref nw, .ref nk, .int mhasKept, .ref nt, .int mtaped, .ref nr, .int mrowMany, .int mroundOf, .int mroundFrom, .int mouts, .ref nm, .int mfromHour, .int mtoHour, .ref ns, .int mfrom, .int mto, .int msort, .int misFault, .int mdeep, .int mcoded, .int mlines, .ref nl, .ref nc, .ref nF, .ref np, .ref ntr, .ref nb, .int mbestCost, .ref nso, .ref nsi, .ref nit, .ref nsh, .ref nsf, .ref nss, .ref nrc, .int (nI jr16310), .int (nI jd), .int mnumber, .int mwhose, .int msize, .int ip16311])), (nrc, .inl (G.2.1, 30, .inl gtrc6312))] H := hP
  have hD : va_D A [(h0, .inr (12, [.ref nw, .ref nk, .int mhasKept, .ref nt, .int mtaped, .ref nr, .int mrowMany, .int mroundOf, .int mroundFrom, .int mouts, .ref nm, .int mfromHour, .int mtoHour, .ref ns, .int mfrom, .int mto, .int msort, .int misFault, .int mdeep, .int mcoded, .int mlines, .ref nl, .ref nc, .ref nF, .ref np, .ref ntr, .ref nb, .int mbestCost, .ref nso, .ref nsi, .ref nit, .ref nsh, .ref nsf, .ref nss, .ref nrc, .int (nI jr16310), .int (nI jd), .int mnumber, .int mwhose, .int msize, .int ip16311])), (nrc, .inl (G.2.1, 30, .inl gtrc6312))] := hD
  obtain ⟨hr6308, w6313⟩ := hr6308
  refine lv_istore (lv' := [(4, .int r6308), (0, .ref h0), (1, .int 4), (2, .int 2), (3, .int xx)]) hx hb dX12_body_306 hl (by decide) rfl (fun ls hl => ?_)
  refine lv_iload hx hb dX12_body_308 (lv_at hl 0 rfl) ?_
  refine lv_aload_n hx hb dX12_body_310 rfl (lv_at hl 1 rfl) ?_
  refine lv_iconst (v := 1) hx hb dX12_body_311 (by decide) ?_
  refine lv_iconst (v := 1) hx hb dX12_body_312 (by decide) ?_
  refine iV (wr := []) hC hK hl hP hD hS hA (m_dealt1 l G h0 1 nw nk mhasKept nt mtaped nr mrowMany mroundOf mroundFrom mouts nm mfromHour mtoHour ns mfrom mto msort misFault mdeep mcoded mlines nl nc nF np ntr nb mbestCost nso nsi nit nsh nsf nss nrc jr16310 jd mnumber mwhose msize ip16311 gtrc6312 (by omega) (by omega)) si_X12_372 [0, 1] [] rfl rfl (by decide) rfl (by decide) (by decide) rfl rfl rfl rfl rfl (Nat.le_of_ble_eq_true rfl) ⟨Nat.le_of_ble_eq_true rfl, Nat.le_of_ble_eq_true rfl⟩ ⟨Nat.le_of_ble_eq_true rfl, Nat.le_of_ble_eq_true rfl⟩ dX12_body_313 (fun r6314 u6315 H locs hr6314 hP hD hS => ?_)
  obtain ⟨jr16316, ip16317, gtrc6318⟩ := u6315
  try dsimp only at hr6314
  have hP : va_P G.1 vwCl [(h0, .inr (12, [.ref nw, .ref nk, .int mhasKept, .ref nt, .int mtaped, .ref nr, .int mrowMany, .int mroundOf, .int mroundFrom, .int mouts, .ref nm, .int mfromHour, .int mtoHour, .ref ns, .int mfrom, .int mto, .int msort, .int misFault, .int mdeep, .int mcoded, .int mlines, .ref nl, .ref nc, .ref nF, .ref np, .ref ntr, .ref nb, .int mbestCost, .ref nso, .ref nsi, .ref nit, .ref nsh, .ref nsf, .ref nss, .ref nrc, .int (nI jr16316), .int (nI jd), .int mnumber, .int mwhose, .int msize, .int ip16317])), (nrc, .inl (G.2.1, 30, .inl gtrc6318))] H := hP
  have hD : va_D A [(h0, .inr (12, [.ref nw, .ref nk, .int mhasKept, .ref nt, .int mtaped, .ref nr, .int mrowMany, .int mroundOf, .int mroundFrom, .int mouts, .ref nm, .int mfromHour, .int mtoHour, .ref ns, .int mfrom, .int mto, .int msort, .int misFault, .int mdeep, .int mcoded, .int mlines, .ref nl, .ref nc, .ref nF, .ref np, .ref ntr, .ref nb, .int mbestCost, .ref nso, .ref nsi, .ref nit, .ref nsh, .ref nsf, .ref nss, .ref nrc, .int (nI jr16316), .int (nI jd), .int mnumber, .int mwhose, .int msize, .int ip16317])), (nrc, .inl (G.2.1, 30, .inl gtrc6318))] := hD
  obtain ⟨hr6314, w6319⟩ := hr6314
  refine lv_iadd hx hb dX12_body_316 ?_
  exact RI (v := r6308 + r6314) hC hP hD hS [0, 1] (jr16316, ip16317, gtrc6318) rfl rfl (by decide) (⟨trivial, by omega⟩) rfl dX12_body_317
set_option maxHeartbeats 4000000 in
set_option maxRecDepth 100000 in
theorem m_from42 (l : Launch) (G : GG) (h0 : Nat) (xx : Int32) (nw : Nat) (nk : Nat) (mhasKept : Int32) (nt : Nat) (mtaped : Int32) (nr : Nat) (mrowMany : Int32) (mroundOf : Int32) (mroundFrom : Int32) (mouts : Int32) (nm : Nat) (mfromHour : Int32) (mtoHour : Int32) (ns : Nat) (mfrom : Int32) (mto : Int32) (msort : Int32) (misFault : Int32) (mdeep : Int32) (mcoded : Int32) (mlines : Int32) (nl : Nat) (nc : Nat) (nF : Nat) (np : Nat) (ntr : Nat) (nb : Nat) (mbestCost : Int32) (nso : Nat) (nsi : Nat) (nit : Nat) (nsh : Nat) (nsf : Nat) (nss : Nat) (nrc : Nat) (jr : Nat) (jd : Nat) (mnumber : Int32) (mwhose : Int32) (msize : Int32) (misParted : Int32) (fnrc : Nat → Int32) (hjr : jr ≤ 30) (hjd : jd < 7) : MI l G yX12_bodyFrom cX12_bodyFrom 5 (some .int) 32 0 0 [.ref h0, .int 4, .int 2, .int xx] [(h0, .inr (12, [.ref nw, .ref nk, .int mhasKept, .ref nt, .int mtaped, .ref nr, .int mrowMany, .int mroundOf, .int mroundFrom, .int mouts, .ref nm, .int mfromHour, .int mtoHour, .ref ns, .int mfrom, .int mto, .int msort, .int misFault, .int mdeep, .int mcoded, .int mlines, .ref nl, .ref nc, .ref nF, .ref np, .ref ntr, .ref nb, .int mbestCost, .ref nso, .ref nsi, .ref nit, .ref nsh, .ref nsf, .ref nss, .ref nrc, .int (nI jr), .int (nI jd), .int mnumber, .int mwhose, .int msize, .int misParted])), (nrc, .inl (G.2.1, 30, .inl fnrc))] (fun (r : Int32) (u : Nat × Int32 × (Nat → Int32)) => (True) ∧ (u.1 ≤ 30)) (fun u : Nat × Int32 × (Nat → Int32) => [(h0, .inr (12, [.ref nw, .ref nk, .int mhasKept, .ref nt, .int mtaped, .ref nr, .int mrowMany, .int mroundOf, .int mroundFrom, .int mouts, .ref nm, .int mfromHour, .int mtoHour, .ref ns, .int mfrom, .int mto, .int msort, .int misFault, .int mdeep, .int mcoded, .int mlines, .ref nl, .ref nc, .ref nF, .ref np, .ref ntr, .ref nb, .int mbestCost, .ref nso, .ref nsi, .ref nit, .ref nsh, .ref nsf, .ref nss, .ref nrc, .int (nI u.1), .int (nI jd), .int mnumber, .int mwhose, .int msize, .int u.2.1])), (nrc, .inl (G.2.1, 30, .inl u.2.2))]) := by
  refine MI.start (by decide +kernel) (Nat.le_of_ble_eq_true rfl) ?_
  intro p e s m below meth c A ls hC hK hP hD hS hA hl
  have hl : lv_has ls 5 [(0, .ref h0), (1, .int 4), (2, .int 2), (3, .int xx)] := hl
  obtain ⟨hx, hb, hr, hml, hB, hown, hlocks, hnm⟩ := id hC
  refine lv_iload_n hx hb dX12_bodyFrom_0 rfl (lv_at hl 1 rfl) ?_
  refine lv_istore (lv' := [(4, .int 4), (0, .ref h0), (1, .int 4), (2, .int 2), (3, .int xx)]) hx hb dX12_bodyFrom_1 hl (by decide) rfl (fun ls hl => ?_)
  refine lv_iload hx hb dX12_bodyFrom_3 (lv_at hl 0 rfl) ?_
  refine lv_iload_n hx hb dX12_bodyFrom_5 rfl (lv_at hl 3 rfl) ?_
  refine pS hC hK hl (m_hasOwn42 l G) si_X12_360 rfl rfl (Nat.le_of_ble_eq_true rfl) ⟨Nat.le_of_ble_eq_true rfl, Nat.le_of_ble_eq_true rfl⟩ ⟨by first | exact Nat.le_of_ble_eq_true rfl | exact Nat.zero_le _, by first | exact Nat.le_of_ble_eq_true rfl | exact Nat.zero_le _⟩ dX12_bodyFrom_6 (fun r6320 hr6320 => ?_)
  obtain rfl := hr6320
  refine lv_if_ne (tgt := 22) hx hb dX12_bodyFrom_9 (by decide) (fun _ => ?_) (fun c9 => absurd c9 (by decide))
  refine lv_aload_n hx hb dX12_bodyFrom_22 rfl (lv_at hl 1 rfl) ?_
  refine lv_iload hx hb dX12_bodyFrom_23 (lv_at hl 0 rfl) ?_
  refine lv_iload_n hx hb dX12_bodyFrom_25 rfl (lv_at hl 3 rfl) ?_
  refine lv_iload_n hx hb dX12_bodyFrom_26 rfl (lv_at hl 4 rfl) ?_
  refine iV (wr := []) hC hK hl hP hD hS hA (m_body42 l G h0 xx nw nk mhasKept nt mtaped nr mrowMany mroundOf mroundFrom mouts nm mfromHour mtoHour ns mfrom mto msort misFault mdeep mcoded mlines nl nc nF np ntr nb mbestCost nso nsi nit nsh nsf nss nrc jr jd mnumber mwhose msize misParted fnrc (by omega) (by omega)) si_X12_363 [0, 1] [] rfl rfl (by decide) rfl (by decide) (by decide) rfl rfl rfl rfl rfl (Nat.le_of_ble_eq_true rfl) ⟨Nat.le_of_ble_eq_true rfl, Nat.le_of_ble_eq_true rfl⟩ ⟨Nat.le_of_ble_eq_true rfl, Nat.le_of_ble_eq_true rfl⟩ dX12_bodyFrom_27 (fun r6322 u6323 H locs hr6322 hP hD hS => ?_)
  obtain ⟨jr16324, ip16325, gtrc6326⟩ := u6323
  try dsimp only at hr6322
  have hP : va_P G.1 vwCl [(h0, .inr (12, [.ref nw, .ref nk, .int mhasKept, .ref nt, .int mtaped, .ref nr, .int mrowMany, .int mroundOf, .int mroundFrom, .int mouts, .ref nm, .int mfromHour, .int mtoHour, .ref ns, .int mfrom, .int mto, .int msort, .int misFault, .int mdeep, .int mcoded, .int mlines, .ref nl, .ref nc, .ref nF, .ref np, .ref ntr, .ref nb, .int mbestCost, .ref nso, .ref nsi, .ref nit, .ref nsh, .ref nsf, .ref nss, .ref nrc, .int (nI jr16324), .int (nI jd), .int mnumber, .int mwhose, .int msize, .int ip16325])), (nrc, .inl (G.2.1, 30, .inl gtrc6326))] H := hP
  have hD : va_D A [(h0, .inr (12, [.ref nw, .ref nk, .int mhasKept, .ref nt, .int mtaped, .ref nr, .int mrowMany, .int mroundOf, .int mroundFrom, .int mouts, .ref nm, .int mfromHour, .int mtoHour, .ref ns, .int mfrom, .int mto, .int msort, .int misFault, .int mdeep, .int mcoded, .int mlines, .ref nl, .ref nc, .ref nF, .ref np, .ref ntr, .ref nb, .int mbestCost, .ref nso, .ref nsi, .ref nit, .ref nsh, .ref nsf, .ref nss, .ref nrc, .int (nI jr16324), .int (nI jd), .int mnumber, .int mwhose, .int msize, .int ip16325])), (nrc, .inl (G.2.1, 30, .inl gtrc6326))] := hD
  obtain ⟨hr6322, w6327⟩ := hr6322
  exact RI (v := r6322) hC hP hD hS [0, 1] (jr16324, ip16325, gtrc6326) rfl rfl (by decide) (⟨trivial, by omega⟩) rfl dX12_bodyFrom_30
set_option maxHeartbeats 4000000 in
set_option maxRecDepth 100000 in
theorem m_body52 (l : Launch) (G : GG) (h0 : Nat) (xx : Int32) (nw : Nat) (nk : Nat) (mhasKept : Int32) (nt : Nat) (mtaped : Int32) (nr : Nat) (mrowMany : Int32) (mroundOf : Int32) (mroundFrom : Int32) (mouts : Int32) (nm : Nat) (mfromHour : Int32) (mtoHour : Int32) (ns : Nat) (mfrom : Int32) (mto : Int32) (msort : Int32) (misFault : Int32) (mdeep : Int32) (mcoded : Int32) (mlines : Int32) (nl : Nat) (nc : Nat) (nF : Nat) (np : Nat) (ntr : Nat) (nb : Nat) (mbestCost : Int32) (nso : Nat) (nsi : Nat) (nit : Nat) (nsh : Nat) (nsf : Nat) (nss : Nat) (nrc : Nat) (jr : Nat) (jd : Nat) (mnumber : Int32) (mwhose : Int32) (msize : Int32) (misParted : Int32) (fnrc : Nat → Int32) (hjr : jr ≤ 30) (hjd : jd < 7) : MI l G yX12_body cX12_body 6 (some .int) 33 0 0 [.ref h0, .int 5, .int 2, .int xx] [(h0, .inr (12, [.ref nw, .ref nk, .int mhasKept, .ref nt, .int mtaped, .ref nr, .int mrowMany, .int mroundOf, .int mroundFrom, .int mouts, .ref nm, .int mfromHour, .int mtoHour, .ref ns, .int mfrom, .int mto, .int msort, .int misFault, .int mdeep, .int mcoded, .int mlines, .ref nl, .ref nc, .ref nF, .ref np, .ref ntr, .ref nb, .int mbestCost, .ref nso, .ref nsi, .ref nit, .ref nsh, .ref nsf, .ref nss, .ref nrc, .int (nI jr), .int (nI jd), .int mnumber, .int mwhose, .int msize, .int misParted])), (nrc, .inl (G.2.1, 30, .inl fnrc))] (fun (r : Int32) (u : Nat × Int32 × (Nat → Int32)) => (True) ∧ (u.1 ≤ 30)) (fun u : Nat × Int32 × (Nat → Int32) => [(h0, .inr (12, [.ref nw, .ref nk, .int mhasKept, .ref nt, .int mtaped, .ref nr, .int mrowMany, .int mroundOf, .int mroundFrom, .int mouts, .ref nm, .int mfromHour, .int mtoHour, .ref ns, .int mfrom, .int mto, .int msort, .int misFault, .int mdeep, .int mcoded, .int mlines, .ref nl, .ref nc, .ref nF, .ref np, .ref ntr, .ref nb, .int mbestCost, .ref nso, .ref nsi, .ref nit, .ref nsh, .ref nsf, .ref nss, .ref nrc, .int (nI u.1), .int (nI jd), .int mnumber, .int mwhose, .int msize, .int u.2.1])), (nrc, .inl (G.2.1, 30, .inl u.2.2))]) := by
  refine MI.start (by decide +kernel) (Nat.le_of_ble_eq_true rfl) ?_
  intro p e s m below meth c A ls hC hK hP hD hS hA hl
  have hl : lv_has ls 6 [(0, .ref h0), (1, .int 5), (2, .int 2), (3, .int xx)] := hl
  obtain ⟨hx, hb, hr, hml, hB, hown, hlocks, hnm⟩ := id hC
  refine lv_iconst (v := 4) hx hb dX12_body_0 (by decide) ?_
  refine lv_iload_n hx hb dX12_body_1 rfl (lv_at hl 1 rfl) ?_
  refine lv_imul hx hb dX12_body_2 ?_
  refine eqi (x1 := 20) (by decide) ?_
  refine lv_iload_n hx hb dX12_body_3 rfl (lv_at hl 2 rfl) ?_
  refine lv_iadd hx hb dX12_body_4 ?_
  refine eqi (x1 := 22) (by decide) ?_
  refine lv_tableIn (tgt := 318) hx hb dX12_body_5 (by decide) (by decide) rfl (by decide) ?_
  refine lv_aload_n hx hb dX12_body_318 rfl (lv_at hl 0 rfl) ?_
  refine lv_bipush (v := 60) hx hb dX12_body_319 (by decide) ?_
  refine vV (wr := []) hC hK hl hP hD hS hA (m_began l G h0 60 nw nk mhasKept nt mtaped nr mrowMany mroundOf mroundFrom mouts nm mfromHour mtoHour ns mfrom mto msort misFault mdeep mcoded mlines nl nc nF np ntr nb mbestCost nso nsi nit nsh nsf nss nrc jr (nI jd) mnumber mwhose msize misParted fnrc (by omega)) si_X12_366 [0, 1] [] rfl rfl (by decide) rfl (by decide) (by decide) rfl rfl rfl rfl rfl (Nat.le_of_ble_eq_true rfl) ⟨Nat.le_of_ble_eq_true rfl, Nat.le_of_ble_eq_true rfl⟩ ⟨Nat.le_of_ble_eq_true rfl, Nat.le_of_ble_eq_true rfl⟩ dX12_body_321 (fun u6329 H locs hr6328 hP hD hS => ?_)
  obtain ⟨jr16330, gtrc6331⟩ := u6329
  try dsimp only at hr6328
  have hP : va_P G.1 vwCl [(h0, .inr (12, [.ref nw, .ref nk, .int mhasKept, .ref nt, .int mtaped, .ref nr, .int mrowMany, .int mroundOf, .int mroundFrom, .int mouts, .ref nm, .int mfromHour, .int mtoHour, .ref ns, .int mfrom, .int mto, .int msort, .int misFault, .int mdeep, .int mcoded, .int mlines, .ref nl, .ref nc, .ref nF, .ref np, .ref ntr, .ref nb, .int mbestCost, .ref nso, .ref nsi, .ref nit, .ref nsh, .ref nsf, .ref nss, .ref nrc, .int (nI jr16330), .int (nI jd), .int mnumber, .int mwhose, .int msize, .int misParted])), (nrc, .inl (G.2.1, 30, .inl gtrc6331))] H := hP
  have hD : va_D A [(h0, .inr (12, [.ref nw, .ref nk, .int mhasKept, .ref nt, .int mtaped, .ref nr, .int mrowMany, .int mroundOf, .int mroundFrom, .int mouts, .ref nm, .int mfromHour, .int mtoHour, .ref ns, .int mfrom, .int mto, .int msort, .int misFault, .int mdeep, .int mcoded, .int mlines, .ref nl, .ref nc, .ref nF, .ref np, .ref ntr, .ref nb, .int mbestCost, .ref nso, .ref nsi, .ref nit, .ref nsh, .ref nsf, .ref nss, .ref nrc, .int (nI jr16330), .int (nI jd), .int mnumber, .int mwhose, .int msize, .int misParted])), (nrc, .inl (G.2.1, 30, .inl gtrc6331))] := hD
  have w6332 := hr6328
  refine lv_aload_n hx hb dX12_body_324 rfl (lv_at hl 0 rfl) ?_
  refine lv_iconst (v := 4) hx hb dX12_body_325 (by decide) ?_
  refine lv_iconst (v := 2) hx hb dX12_body_326 (by decide) ?_
  refine lv_iload_n hx hb dX12_body_327 rfl (lv_at hl 3 rfl) ?_
  refine iV (wr := []) hC hK hl hP hD hS hA (m_from42 l G h0 xx nw nk mhasKept nt mtaped nr mrowMany mroundOf mroundFrom mouts nm mfromHour mtoHour ns mfrom mto msort misFault mdeep mcoded mlines nl nc nF np ntr nb mbestCost nso nsi nit nsh nsf nss nrc jr16330 jd mnumber mwhose msize misParted gtrc6331 (by omega) (by omega)) si_X12_357 [0, 1] [] rfl rfl (by decide) rfl (by decide) (by decide) rfl rfl rfl rfl rfl (Nat.le_of_ble_eq_true rfl) ⟨Nat.le_of_ble_eq_true rfl, Nat.le_of_ble_eq_true rfl⟩ ⟨Nat.le_of_ble_eq_true rfl, Nat.le_of_ble_eq_true rfl⟩ dX12_body_328 (fun r6333 u6334 H locs hr6333 hP hD hS => ?_)
  obtain ⟨jr16335, ip16336, gtrc6337⟩ := u6334
  try dsimp only at hr6333
  have hP : va_P G.1 vwCl [(h0, .inr (12, [.ref nw, .ref nk, .int mhasKept, .ref nt, .int mtaped, .ref nr, .int mrowMany, .int mroundOf, .int mroundFrom, .int mouts, .ref nm, .int mfromHour, .int mtoHour, .ref ns, .int mfrom, .int mto, .int msort, .int misFault, .int mdeep, .int mcoded, .int mlines, .ref nl, .ref nc, .ref nF, .ref np, .ref ntr, .ref nb, .int mbestCost, .ref nso, .ref nsi, .ref nit, .ref nsh, .ref nsf, .ref nss, .ref nrc, .int (nI jr16335), .int (nI jd), .int mnumber, .int mwhose, .int msize, .int ip16336])), (nrc, .inl (G.2.1, 30, .inl gtrc6337))] H := hP
  have hD : va_D A [(h0, .inr (12, [.ref nw, .ref nk, .int mhasKept, .ref nt, .int mtaped, .ref nr, .int mrowMany, .int mroundOf, .int mroundFrom, .int mouts, .ref nm, .int mfromHour, .int mtoHour, .ref ns, .int mfrom, .int mto, .int msort, .int misFault, .int mdeep, .int mcoded, .int mlines, .ref nl, .ref nc, .ref nF, .ref np, .ref ntr, .ref nb, .int mbestCost, .ref nso, .ref nsi, .ref nit, .ref nsh, .ref nsf, .ref nss, .ref nrc, .int (nI jr16335), .int (nI jd), .int mnumber, .int mwhose, .int msize, .int ip16336])), (nrc, .inl (G.2.1, 30, .inl gtrc6337))] := hD
  obtain ⟨hr6333, w6338⟩ := hr6333
  refine lv_iconst (v := 2) hx hb dX12_body_331 (by decide) ?_
  refine lv_imul hx hb dX12_body_332 ?_
  exact RI (v := r6333 * 2) hC hP hD hS [0, 1] (jr16335, ip16336, gtrc6337) rfl rfl (by decide) (⟨trivial, by omega⟩) rfl dX12_body_333
set_option maxHeartbeats 4000000 in
set_option maxRecDepth 100000 in
theorem m_from52 (l : Launch) (G : GG) (h0 : Nat) (xx : Int32) (nw : Nat) (nk : Nat) (mhasKept : Int32) (nt : Nat) (mtaped : Int32) (nr : Nat) (mrowMany : Int32) (mroundOf : Int32) (mroundFrom : Int32) (mouts : Int32) (nm : Nat) (mfromHour : Int32) (mtoHour : Int32) (ns : Nat) (mfrom : Int32) (mto : Int32) (msort : Int32) (misFault : Int32) (mdeep : Int32) (mcoded : Int32) (mlines : Int32) (nl : Nat) (nc : Nat) (nF : Nat) (np : Nat) (ntr : Nat) (nb : Nat) (mbestCost : Int32) (nso : Nat) (nsi : Nat) (nit : Nat) (nsh : Nat) (nsf : Nat) (nss : Nat) (nrc : Nat) (jr : Nat) (jd : Nat) (mnumber : Int32) (mwhose : Int32) (msize : Int32) (misParted : Int32) (fnrc : Nat → Int32) (hjr : jr ≤ 30) (hjd : jd < 7) : MI l G yX12_bodyFrom cX12_bodyFrom 5 (some .int) 34 0 0 [.ref h0, .int 5, .int 2, .int xx] [(h0, .inr (12, [.ref nw, .ref nk, .int mhasKept, .ref nt, .int mtaped, .ref nr, .int mrowMany, .int mroundOf, .int mroundFrom, .int mouts, .ref nm, .int mfromHour, .int mtoHour, .ref ns, .int mfrom, .int mto, .int msort, .int misFault, .int mdeep, .int mcoded, .int mlines, .ref nl, .ref nc, .ref nF, .ref np, .ref ntr, .ref nb, .int mbestCost, .ref nso, .ref nsi, .ref nit, .ref nsh, .ref nsf, .ref nss, .ref nrc, .int (nI jr), .int (nI jd), .int mnumber, .int mwhose, .int msize, .int misParted])), (nrc, .inl (G.2.1, 30, .inl fnrc))] (fun (r : Int32) (u : Nat × Int32 × (Nat → Int32)) => (True) ∧ (u.1 ≤ 30)) (fun u : Nat × Int32 × (Nat → Int32) => [(h0, .inr (12, [.ref nw, .ref nk, .int mhasKept, .ref nt, .int mtaped, .ref nr, .int mrowMany, .int mroundOf, .int mroundFrom, .int mouts, .ref nm, .int mfromHour, .int mtoHour, .ref ns, .int mfrom, .int mto, .int msort, .int misFault, .int mdeep, .int mcoded, .int mlines, .ref nl, .ref nc, .ref nF, .ref np, .ref ntr, .ref nb, .int mbestCost, .ref nso, .ref nsi, .ref nit, .ref nsh, .ref nsf, .ref nss, .ref nrc, .int (nI u.1), .int (nI jd), .int mnumber, .int mwhose, .int msize, .int u.2.1])), (nrc, .inl (G.2.1, 30, .inl u.2.2))]) := by
  refine MI.start (by decide +kernel) (Nat.le_of_ble_eq_true rfl) ?_
  intro p e s m below meth c A ls hC hK hP hD hS hA hl
  have hl : lv_has ls 5 [(0, .ref h0), (1, .int 5), (2, .int 2), (3, .int xx)] := hl
  obtain ⟨hx, hb, hr, hml, hB, hown, hlocks, hnm⟩ := id hC
  refine lv_iload_n hx hb dX12_bodyFrom_0 rfl (lv_at hl 1 rfl) ?_
  refine lv_istore (lv' := [(4, .int 5), (0, .ref h0), (1, .int 5), (2, .int 2), (3, .int xx)]) hx hb dX12_bodyFrom_1 hl (by decide) rfl (fun ls hl => ?_)
  refine lv_iload hx hb dX12_bodyFrom_3 (lv_at hl 0 rfl) ?_
  refine lv_iload_n hx hb dX12_bodyFrom_5 rfl (lv_at hl 3 rfl) ?_
  refine pS hC hK hl (m_hasOwn52 l G) si_X12_360 rfl rfl (Nat.le_of_ble_eq_true rfl) ⟨Nat.le_of_ble_eq_true rfl, Nat.le_of_ble_eq_true rfl⟩ ⟨by first | exact Nat.le_of_ble_eq_true rfl | exact Nat.zero_le _, by first | exact Nat.le_of_ble_eq_true rfl | exact Nat.zero_le _⟩ dX12_bodyFrom_6 (fun r6339 hr6339 => ?_)
  obtain rfl := hr6339
  refine lv_if_ne (tgt := 22) hx hb dX12_bodyFrom_9 (by decide) (fun _ => ?_) (fun c9 => absurd c9 (by decide))
  refine lv_aload_n hx hb dX12_bodyFrom_22 rfl (lv_at hl 1 rfl) ?_
  refine lv_iload hx hb dX12_bodyFrom_23 (lv_at hl 0 rfl) ?_
  refine lv_iload_n hx hb dX12_bodyFrom_25 rfl (lv_at hl 3 rfl) ?_
  refine lv_iload_n hx hb dX12_bodyFrom_26 rfl (lv_at hl 4 rfl) ?_
  refine iV (wr := []) hC hK hl hP hD hS hA (m_body52 l G h0 xx nw nk mhasKept nt mtaped nr mrowMany mroundOf mroundFrom mouts nm mfromHour mtoHour ns mfrom mto msort misFault mdeep mcoded mlines nl nc nF np ntr nb mbestCost nso nsi nit nsh nsf nss nrc jr jd mnumber mwhose msize misParted fnrc (by omega) (by omega)) si_X12_363 [0, 1] [] rfl rfl (by decide) rfl (by decide) (by decide) rfl rfl rfl rfl rfl (Nat.le_of_ble_eq_true rfl) ⟨Nat.le_of_ble_eq_true rfl, Nat.le_of_ble_eq_true rfl⟩ ⟨Nat.le_of_ble_eq_true rfl, Nat.le_of_ble_eq_true rfl⟩ dX12_bodyFrom_27 (fun r6341 u6342 H locs hr6341 hP hD hS => ?_)
  obtain ⟨jr16343, ip16344, gtrc6345⟩ := u6342
  try dsimp only at hr6341
  have hP : va_P G.1 vwCl [(h0, .inr (12, [.ref nw, .ref nk, .int mhasKept, .ref nt, .int mtaped, .ref nr, .int mrowMany, .int mroundOf, .int mroundFrom, .int mouts, .ref nm, .int mfromHour, .int mtoHour, .ref ns, .int mfrom, .int mto, .int msort, .int misFault, .int mdeep, .int mcoded, .int mlines, .ref nl, .ref nc, .ref nF, .ref np, .ref ntr, .ref nb, .int mbestCost, .ref nso, .ref nsi, .ref nit, .ref nsh, .ref nsf, .ref nss, .ref nrc, .int (nI jr16343), .int (nI jd), .int mnumber, .int mwhose, .int msize, .int ip16344])), (nrc, .inl (G.2.1, 30, .inl gtrc6345))] H := hP
  have hD : va_D A [(h0, .inr (12, [.ref nw, .ref nk, .int mhasKept, .ref nt, .int mtaped, .ref nr, .int mrowMany, .int mroundOf, .int mroundFrom, .int mouts, .ref nm, .int mfromHour, .int mtoHour, .ref ns, .int mfrom, .int mto, .int msort, .int misFault, .int mdeep, .int mcoded, .int mlines, .ref nl, .ref nc, .ref nF, .ref np, .ref ntr, .ref nb, .int mbestCost, .ref nso, .ref nsi, .ref nit, .ref nsh, .ref nsf, .ref nss, .ref nrc, .int (nI jr16343), .int (nI jd), .int mnumber, .int mwhose, .int msize, .int ip16344])), (nrc, .inl (G.2.1, 30, .inl gtrc6345))] := hD
  obtain ⟨hr6341, w6346⟩ := hr6341
  exact RI (v := r6341) hC hP hD hS [0, 1] (jr16343, ip16344, gtrc6345) rfl rfl (by decide) (⟨trivial, by omega⟩) rfl dX12_bodyFrom_30
set_option maxHeartbeats 4000000 in
set_option maxRecDepth 100000 in
theorem m_from12 (l : Launch) (G : GG) (h0 : Nat) (xx : Int32) (nw : Nat) (nk : Nat) (mhasKept : Int32) (nt : Nat) (mtaped : Int32) (nr : Nat) (mrowMany : Int32) (mroundOf : Int32) (mroundFrom : Int32) (mouts : Int32) (nm : Nat) (mfromHour : Int32) (mtoHour : Int32) (ns : Nat) (mfrom : Int32) (mto : Int32) (msort : Int32) (misFault : Int32) (mdeep : Int32) (mcoded : Int32) (mlines : Int32) (nl : Nat) (nc : Nat) (nF : Nat) (np : Nat) (ntr : Nat) (nb : Nat) (mbestCost : Int32) (nso : Nat) (nsi : Nat) (nit : Nat) (nsh : Nat) (nsf : Nat) (nss : Nat) (nrc : Nat) (jr : Nat) (jd : Nat) (mnumber : Int32) (mwhose : Int32) (msize : Int32) (misParted : Int32) (fnrc : Nat → Int32) (hjr : jr ≤ 30) (hjd : jd < 7) : MI l G yX12_bodyFrom cX12_bodyFrom 5 (some .int) 36 0 0 [.ref h0, .int 1, .int 2, .int xx] [(h0, .inr (12, [.ref nw, .ref nk, .int mhasKept, .ref nt, .int mtaped, .ref nr, .int mrowMany, .int mroundOf, .int mroundFrom, .int mouts, .ref nm, .int mfromHour, .int mtoHour, .ref ns, .int mfrom, .int mto, .int msort, .int misFault, .int mdeep, .int mcoded, .int mlines, .ref nl, .ref nc, .ref nF, .ref np, .ref ntr, .ref nb, .int mbestCost, .ref nso, .ref nsi, .ref nit, .ref nsh, .ref nsf, .ref nss, .ref nrc, .int (nI jr), .int (nI jd), .int mnumber, .int mwhose, .int msize, .int misParted])), (nrc, .inl (G.2.1, 30, .inl fnrc))] (fun (r : Int32) (u : Nat × Int32 × (Nat → Int32)) => (True) ∧ (u.1 ≤ 30)) (fun u : Nat × Int32 × (Nat → Int32) => [(h0, .inr (12, [.ref nw, .ref nk, .int mhasKept, .ref nt, .int mtaped, .ref nr, .int mrowMany, .int mroundOf, .int mroundFrom, .int mouts, .ref nm, .int mfromHour, .int mtoHour, .ref ns, .int mfrom, .int mto, .int msort, .int misFault, .int mdeep, .int mcoded, .int mlines, .ref nl, .ref nc, .ref nF, .ref np, .ref ntr, .ref nb, .int mbestCost, .ref nso, .ref nsi, .ref nit, .ref nsh, .ref nsf, .ref nss, .ref nrc, .int (nI u.1), .int (nI jd), .int mnumber, .int mwhose, .int msize, .int u.2.1])), (nrc, .inl (G.2.1, 30, .inl u.2.2))]) := by
  refine MI.start (by decide +kernel) (Nat.le_of_ble_eq_true rfl) ?_
  intro p e s m below meth c A ls hC hK hP hD hS hA hl
  have hl : lv_has ls 5 [(0, .ref h0), (1, .int 1), (2, .int 2), (3, .int xx)] := hl
  obtain ⟨hx, hb, hr, hml, hB, hown, hlocks, hnm⟩ := id hC
  refine lv_iload_n hx hb dX12_bodyFrom_0 rfl (lv_at hl 1 rfl) ?_
  refine lv_istore (lv' := [(4, .int 1), (0, .ref h0), (1, .int 1), (2, .int 2), (3, .int xx)]) hx hb dX12_bodyFrom_1 hl (by decide) rfl (fun ls hl => ?_)
  refine lv_iload hx hb dX12_bodyFrom_3 (lv_at hl 0 rfl) ?_
  refine lv_iload_n hx hb dX12_bodyFrom_5 rfl (lv_at hl 3 rfl) ?_
  refine pS hC hK hl (m_hasOwn12 l G) si_X12_360 rfl rfl (Nat.le_of_ble_eq_true rfl) ⟨Nat.le_of_ble_eq_true rfl, Nat.le_of_ble_eq_true rfl⟩ ⟨by first | exact Nat.le_of_ble_eq_true rfl | exact Nat.zero_le _, by first | exact Nat.le_of_ble_eq_true rfl | exact Nat.zero_le _⟩ dX12_bodyFrom_6 (fun r6347 hr6347 => ?_)
  obtain rfl := hr6347
  refine lv_if_ne (tgt := 22) hx hb dX12_bodyFrom_9 (by decide) (fun c9 => absurd (by decide) c9) (fun _ => ?_)
  refine lv_iload hx hb dX12_bodyFrom_12 (lv_at hl 0 rfl) ?_
  refine pS hC hK hl (m_above1 l G) si_X12_348 rfl rfl (Nat.le_of_ble_eq_true rfl) ⟨Nat.le_of_ble_eq_true rfl, Nat.le_of_ble_eq_true rfl⟩ ⟨by first | exact Nat.le_of_ble_eq_true rfl | exact Nat.zero_le _, by first | exact Nat.le_of_ble_eq_true rfl | exact Nat.zero_le _⟩ dX12_bodyFrom_14 (fun r6349 hr6349 => ?_)
  obtain rfl := hr6349
  refine lv_istore (lv' := [(4, .int 0), (0, .ref h0), (1, .int 1), (2, .int 2), (3, .int xx)]) hx hb dX12_bodyFrom_17 hl (by decide) rfl (fun ls hl => ?_)
  refine lv_goto (tgt := 3) hx hb dX12_bodyFrom_19 (by decide) ?_
  refine lv_iload hx hb dX12_bodyFrom_3 (lv_at hl 0 rfl) ?_
  refine lv_iload_n hx hb dX12_bodyFrom_5 rfl (lv_at hl 3 rfl) ?_
  refine pS hC hK hl (m_hasOwn02 l G) si_X12_360 rfl rfl (Nat.le_of_ble_eq_true rfl) ⟨Nat.le_of_ble_eq_true rfl, Nat.le_of_ble_eq_true rfl⟩ ⟨by first | exact Nat.le_of_ble_eq_true rfl | exact Nat.zero_le _, by first | exact Nat.le_of_ble_eq_true rfl | exact Nat.zero_le _⟩ dX12_bodyFrom_6 (fun r6351 hr6351 => ?_)
  obtain rfl := hr6351
  refine lv_if_ne (tgt := 22) hx hb dX12_bodyFrom_9 (by decide) (fun _ => ?_) (fun c9 => absurd c9 (by decide))
  refine lv_aload_n hx hb dX12_bodyFrom_22 rfl (lv_at hl 1 rfl) ?_
  refine lv_iload hx hb dX12_bodyFrom_23 (lv_at hl 0 rfl) ?_
  refine lv_iload_n hx hb dX12_bodyFrom_25 rfl (lv_at hl 3 rfl) ?_
  refine lv_iload_n hx hb dX12_bodyFrom_26 rfl (lv_at hl 4 rfl) ?_
  refine iV (wr := []) hC hK hl hP hD hS hA (m_body02 l G h0 xx nw nk mhasKept nt mtaped nr mrowMany mroundOf mroundFrom mouts nm mfromHour mtoHour ns mfrom mto msort misFault mdeep mcoded mlines nl nc nF np ntr nb mbestCost nso nsi nit nsh nsf nss nrc jr jd mnumber mwhose msize misParted fnrc (by omega) (by omega)) si_X12_363 [0, 1] [] rfl rfl (by decide) rfl (by decide) (by decide) rfl rfl rfl rfl rfl (Nat.le_of_ble_eq_true rfl) ⟨Nat.le_of_ble_eq_true rfl, Nat.le_of_ble_eq_true rfl⟩ ⟨Nat.le_of_ble_eq_true rfl, Nat.le_of_ble_eq_true rfl⟩ dX12_bodyFrom_27 (fun r6353 u6354 H locs hr6353 hP hD hS => ?_)
  obtain ⟨jr16355, ip16356, gtrc6357⟩ := u6354
  try dsimp only at hr6353
  have hP : va_P G.1 vwCl [(h0, .inr (12, [.ref nw, .ref nk, .int mhasKept, .ref nt, .int mtaped, .ref nr, .int mrowMany, .int mroundOf, .int mroundFrom, .int mouts, .ref nm, .int mfromHour, .int mtoHour, .ref ns, .int mfrom, .int mto, .int msort, .int misFault, .int mdeep, .int mcoded, .int mlines, .ref nl, .ref nc, .ref nF, .ref np, .ref ntr, .ref nb, .int mbestCost, .ref nso, .ref nsi, .ref nit, .ref nsh, .ref nsf, .ref nss, .ref nrc, .int (nI jr16355), .int (nI jd), .int mnumber, .int mwhose, .int msize, .int ip16356])), (nrc, .inl (G.2.1, 30, .inl gtrc6357))] H := hP
  have hD : va_D A [(h0, .inr (12, [.ref nw, .ref nk, .int mhasKept, .ref nt, .int mtaped, .ref nr, .int mrowMany, .int mroundOf, .int mroundFrom, .int mouts, .ref nm, .int mfromHour, .int mtoHour, .ref ns, .int mfrom, .int mto, .int msort, .int misFault, .int mdeep, .int mcoded, .int mlines, .ref nl, .ref nc, .ref nF, .ref np, .ref ntr, .ref nb, .int mbestCost, .ref nso, .ref nsi, .ref nit, .ref nsh, .ref nsf, .ref nss, .ref nrc, .int (nI jr16355), .int (nI jd), .int mnumber, .int mwhose, .int msize, .int ip16356])), (nrc, .inl (G.2.1, 30, .inl gtrc6357))] := hD
  obtain ⟨hr6353, w6358⟩ := hr6353
  exact RI (v := r6353) hC hP hD hS [0, 1] (jr16355, ip16356, gtrc6357) rfl rfl (by decide) (⟨trivial, by omega⟩) rfl dX12_bodyFrom_30
set_option maxHeartbeats 4000000 in
set_option maxRecDepth 100000 in
theorem m_from32 (l : Launch) (G : GG) (h0 : Nat) (xx : Int32) (nw : Nat) (nk : Nat) (mhasKept : Int32) (nt : Nat) (mtaped : Int32) (nr : Nat) (mrowMany : Int32) (mroundOf : Int32) (mroundFrom : Int32) (mouts : Int32) (nm : Nat) (mfromHour : Int32) (mtoHour : Int32) (ns : Nat) (mfrom : Int32) (mto : Int32) (msort : Int32) (misFault : Int32) (mdeep : Int32) (mcoded : Int32) (mlines : Int32) (nl : Nat) (nc : Nat) (nF : Nat) (np : Nat) (ntr : Nat) (nb : Nat) (mbestCost : Int32) (nso : Nat) (nsi : Nat) (nit : Nat) (nsh : Nat) (nsf : Nat) (nss : Nat) (nrc : Nat) (jr : Nat) (jd : Nat) (mnumber : Int32) (mwhose : Int32) (msize : Int32) (misParted : Int32) (fnrc : Nat → Int32) (hjr : jr ≤ 30) (hjd : jd < 7) : MI l G yX12_bodyFrom cX12_bodyFrom 5 (some .int) 36 0 0 [.ref h0, .int 3, .int 2, .int xx] [(h0, .inr (12, [.ref nw, .ref nk, .int mhasKept, .ref nt, .int mtaped, .ref nr, .int mrowMany, .int mroundOf, .int mroundFrom, .int mouts, .ref nm, .int mfromHour, .int mtoHour, .ref ns, .int mfrom, .int mto, .int msort, .int misFault, .int mdeep, .int mcoded, .int mlines, .ref nl, .ref nc, .ref nF, .ref np, .ref ntr, .ref nb, .int mbestCost, .ref nso, .ref nsi, .ref nit, .ref nsh, .ref nsf, .ref nss, .ref nrc, .int (nI jr), .int (nI jd), .int mnumber, .int mwhose, .int msize, .int misParted])), (nrc, .inl (G.2.1, 30, .inl fnrc))] (fun (r : Int32) (u : Nat × Int32 × (Nat → Int32)) => (True) ∧ (u.1 ≤ 30)) (fun u : Nat × Int32 × (Nat → Int32) => [(h0, .inr (12, [.ref nw, .ref nk, .int mhasKept, .ref nt, .int mtaped, .ref nr, .int mrowMany, .int mroundOf, .int mroundFrom, .int mouts, .ref nm, .int mfromHour, .int mtoHour, .ref ns, .int mfrom, .int mto, .int msort, .int misFault, .int mdeep, .int mcoded, .int mlines, .ref nl, .ref nc, .ref nF, .ref np, .ref ntr, .ref nb, .int mbestCost, .ref nso, .ref nsi, .ref nit, .ref nsh, .ref nsf, .ref nss, .ref nrc, .int (nI u.1), .int (nI jd), .int mnumber, .int mwhose, .int msize, .int u.2.1])), (nrc, .inl (G.2.1, 30, .inl u.2.2))]) := by
  refine MI.start (by decide +kernel) (Nat.le_of_ble_eq_true rfl) ?_
  intro p e s m below meth c A ls hC hK hP hD hS hA hl
  have hl : lv_has ls 5 [(0, .ref h0), (1, .int 3), (2, .int 2), (3, .int xx)] := hl
  obtain ⟨hx, hb, hr, hml, hB, hown, hlocks, hnm⟩ := id hC
  refine lv_iload_n hx hb dX12_bodyFrom_0 rfl (lv_at hl 1 rfl) ?_
  refine lv_istore (lv' := [(4, .int 3), (0, .ref h0), (1, .int 3), (2, .int 2), (3, .int xx)]) hx hb dX12_bodyFrom_1 hl (by decide) rfl (fun ls hl => ?_)
  refine lv_iload hx hb dX12_bodyFrom_3 (lv_at hl 0 rfl) ?_
  refine lv_iload_n hx hb dX12_bodyFrom_5 rfl (lv_at hl 3 rfl) ?_
  refine pS hC hK hl (m_hasOwn32 l G) si_X12_360 rfl rfl (Nat.le_of_ble_eq_true rfl) ⟨Nat.le_of_ble_eq_true rfl, Nat.le_of_ble_eq_true rfl⟩ ⟨by first | exact Nat.le_of_ble_eq_true rfl | exact Nat.zero_le _, by first | exact Nat.le_of_ble_eq_true rfl | exact Nat.zero_le _⟩ dX12_bodyFrom_6 (fun r6359 hr6359 => ?_)
  obtain rfl := hr6359
  refine lv_if_ne (tgt := 22) hx hb dX12_bodyFrom_9 (by decide) (fun c9 => absurd (by decide) c9) (fun _ => ?_)
  refine lv_iload hx hb dX12_bodyFrom_12 (lv_at hl 0 rfl) ?_
  refine pS hC hK hl (m_above3 l G) si_X12_348 rfl rfl (Nat.le_of_ble_eq_true rfl) ⟨Nat.le_of_ble_eq_true rfl, Nat.le_of_ble_eq_true rfl⟩ ⟨by first | exact Nat.le_of_ble_eq_true rfl | exact Nat.zero_le _, by first | exact Nat.le_of_ble_eq_true rfl | exact Nat.zero_le _⟩ dX12_bodyFrom_14 (fun r6361 hr6361 => ?_)
  obtain rfl := hr6361
  refine lv_istore (lv' := [(4, .int 1), (0, .ref h0), (1, .int 3), (2, .int 2), (3, .int xx)]) hx hb dX12_bodyFrom_17 hl (by decide) rfl (fun ls hl => ?_)
  refine lv_goto (tgt := 3) hx hb dX12_bodyFrom_19 (by decide) ?_
  refine lv_iload hx hb dX12_bodyFrom_3 (lv_at hl 0 rfl) ?_
  refine lv_iload_n hx hb dX12_bodyFrom_5 rfl (lv_at hl 3 rfl) ?_
  refine pS hC hK hl (m_hasOwn12 l G) si_X12_360 rfl rfl (Nat.le_of_ble_eq_true rfl) ⟨Nat.le_of_ble_eq_true rfl, Nat.le_of_ble_eq_true rfl⟩ ⟨by first | exact Nat.le_of_ble_eq_true rfl | exact Nat.zero_le _, by first | exact Nat.le_of_ble_eq_true rfl | exact Nat.zero_le _⟩ dX12_bodyFrom_6 (fun r6363 hr6363 => ?_)
  obtain rfl := hr6363
  refine lv_if_ne (tgt := 22) hx hb dX12_bodyFrom_9 (by decide) (fun c9 => absurd (by decide) c9) (fun _ => ?_)
  refine lv_iload hx hb dX12_bodyFrom_12 (lv_at hl 0 rfl) ?_
  refine pS hC hK hl (m_above1 l G) si_X12_348 rfl rfl (Nat.le_of_ble_eq_true rfl) ⟨Nat.le_of_ble_eq_true rfl, Nat.le_of_ble_eq_true rfl⟩ ⟨by first | exact Nat.le_of_ble_eq_true rfl | exact Nat.zero_le _, by first | exact Nat.le_of_ble_eq_true rfl | exact Nat.zero_le _⟩ dX12_bodyFrom_14 (fun r6365 hr6365 => ?_)
  obtain rfl := hr6365
  refine lv_istore (lv' := [(4, .int 0), (0, .ref h0), (1, .int 3), (2, .int 2), (3, .int xx)]) hx hb dX12_bodyFrom_17 hl (by decide) rfl (fun ls hl => ?_)
  refine lv_goto (tgt := 3) hx hb dX12_bodyFrom_19 (by decide) ?_
  refine lv_iload hx hb dX12_bodyFrom_3 (lv_at hl 0 rfl) ?_
  refine lv_iload_n hx hb dX12_bodyFrom_5 rfl (lv_at hl 3 rfl) ?_
  refine pS hC hK hl (m_hasOwn02 l G) si_X12_360 rfl rfl (Nat.le_of_ble_eq_true rfl) ⟨Nat.le_of_ble_eq_true rfl, Nat.le_of_ble_eq_true rfl⟩ ⟨by first | exact Nat.le_of_ble_eq_true rfl | exact Nat.zero_le _, by first | exact Nat.le_of_ble_eq_true rfl | exact Nat.zero_le _⟩ dX12_bodyFrom_6 (fun r6367 hr6367 => ?_)
  obtain rfl := hr6367
  refine lv_if_ne (tgt := 22) hx hb dX12_bodyFrom_9 (by decide) (fun _ => ?_) (fun c9 => absurd c9 (by decide))
  refine lv_aload_n hx hb dX12_bodyFrom_22 rfl (lv_at hl 1 rfl) ?_
  refine lv_iload hx hb dX12_bodyFrom_23 (lv_at hl 0 rfl) ?_
  refine lv_iload_n hx hb dX12_bodyFrom_25 rfl (lv_at hl 3 rfl) ?_
  refine lv_iload_n hx hb dX12_bodyFrom_26 rfl (lv_at hl 4 rfl) ?_
  refine iV (wr := []) hC hK hl hP hD hS hA (m_body02 l G h0 xx nw nk mhasKept nt mtaped nr mrowMany mroundOf mroundFrom mouts nm mfromHour mtoHour ns mfrom mto msort misFault mdeep mcoded mlines nl nc nF np ntr nb mbestCost nso nsi nit nsh nsf nss nrc jr jd mnumber mwhose msize misParted fnrc (by omega) (by omega)) si_X12_363 [0, 1] [] rfl rfl (by decide) rfl (by decide) (by decide) rfl rfl rfl rfl rfl (Nat.le_of_ble_eq_true rfl) ⟨Nat.le_of_ble_eq_true rfl, Nat.le_of_ble_eq_true rfl⟩ ⟨Nat.le_of_ble_eq_true rfl, Nat.le_of_ble_eq_true rfl⟩ dX12_bodyFrom_27 (fun r6369 u6370 H locs hr6369 hP hD hS => ?_)
  obtain ⟨jr16371, ip16372, gtrc6373⟩ := u6370
  try dsimp only at hr6369
  have hP : va_P G.1 vwCl [(h0, .inr (12, [.ref nw, .ref nk, .int mhasKept, .ref nt, .int mtaped, .ref nr, .int mrowMany, .int mroundOf, .int mroundFrom, .int mouts, .ref nm, .int mfromHour, .int mtoHour, .ref ns, .int mfrom, .int mto, .int msort, .int misFault, .int mdeep, .int mcoded, .int mlines, .ref nl, .ref nc, .ref nF, .ref np, .ref ntr, .ref nb, .int mbestCost, .ref nso, .ref nsi, .ref nit, .ref nsh, .ref nsf, .ref nss, .ref nrc, .int (nI jr16371), .int (nI jd), .int mnumber, .int mwhose, .int msize, .int ip16372])), (nrc, .inl (G.2.1, 30, .inl gtrc6373))] H := hP
  have hD : va_D A [(h0, .inr (12, [.ref nw, .ref nk, .int mhasKept, .ref nt, .int mtaped, .ref nr, .int mrowMany, .int mroundOf, .int mroundFrom, .int mouts, .ref nm, .int mfromHour, .int mtoHour, .ref ns, .int mfrom, .int mto, .int msort, .int misFault, .int mdeep, .int mcoded, .int mlines, .ref nl, .ref nc, .ref nF, .ref np, .ref ntr, .ref nb, .int mbestCost, .ref nso, .ref nsi, .ref nit, .ref nsh, .ref nsf, .ref nss, .ref nrc, .int (nI jr16371), .int (nI jd), .int mnumber, .int mwhose, .int msize, .int ip16372])), (nrc, .inl (G.2.1, 30, .inl gtrc6373))] := hD
  obtain ⟨hr6369, w6374⟩ := hr6369
  exact RI (v := r6369) hC hP hD hS [0, 1] (jr16371, ip16372, gtrc6373) rfl rfl (by decide) (⟨trivial, by omega⟩) rfl dX12_bodyFrom_30
set_option maxHeartbeats 4000000 in
set_option maxRecDepth 100000 in
theorem m_from62 (l : Launch) (G : GG) (h0 : Nat) (xx : Int32) (nw : Nat) (nk : Nat) (mhasKept : Int32) (nt : Nat) (mtaped : Int32) (nr : Nat) (mrowMany : Int32) (mroundOf : Int32) (mroundFrom : Int32) (mouts : Int32) (nm : Nat) (mfromHour : Int32) (mtoHour : Int32) (ns : Nat) (mfrom : Int32) (mto : Int32) (msort : Int32) (misFault : Int32) (mdeep : Int32) (mcoded : Int32) (mlines : Int32) (nl : Nat) (nc : Nat) (nF : Nat) (np : Nat) (ntr : Nat) (nb : Nat) (mbestCost : Int32) (nso : Nat) (nsi : Nat) (nit : Nat) (nsh : Nat) (nsf : Nat) (nss : Nat) (nrc : Nat) (jr : Nat) (jd : Nat) (mnumber : Int32) (mwhose : Int32) (msize : Int32) (misParted : Int32) (fnrc : Nat → Int32) (hjr : jr ≤ 30) (hjd : jd < 7) : MI l G yX12_bodyFrom cX12_bodyFrom 5 (some .int) 36 0 0 [.ref h0, .int 6, .int 2, .int xx] [(h0, .inr (12, [.ref nw, .ref nk, .int mhasKept, .ref nt, .int mtaped, .ref nr, .int mrowMany, .int mroundOf, .int mroundFrom, .int mouts, .ref nm, .int mfromHour, .int mtoHour, .ref ns, .int mfrom, .int mto, .int msort, .int misFault, .int mdeep, .int mcoded, .int mlines, .ref nl, .ref nc, .ref nF, .ref np, .ref ntr, .ref nb, .int mbestCost, .ref nso, .ref nsi, .ref nit, .ref nsh, .ref nsf, .ref nss, .ref nrc, .int (nI jr), .int (nI jd), .int mnumber, .int mwhose, .int msize, .int misParted])), (nrc, .inl (G.2.1, 30, .inl fnrc))] (fun (r : Int32) (u : Nat × Int32 × (Nat → Int32)) => (True) ∧ (u.1 ≤ 30)) (fun u : Nat × Int32 × (Nat → Int32) => [(h0, .inr (12, [.ref nw, .ref nk, .int mhasKept, .ref nt, .int mtaped, .ref nr, .int mrowMany, .int mroundOf, .int mroundFrom, .int mouts, .ref nm, .int mfromHour, .int mtoHour, .ref ns, .int mfrom, .int mto, .int msort, .int misFault, .int mdeep, .int mcoded, .int mlines, .ref nl, .ref nc, .ref nF, .ref np, .ref ntr, .ref nb, .int mbestCost, .ref nso, .ref nsi, .ref nit, .ref nsh, .ref nsf, .ref nss, .ref nrc, .int (nI u.1), .int (nI jd), .int mnumber, .int mwhose, .int msize, .int u.2.1])), (nrc, .inl (G.2.1, 30, .inl u.2.2))]) := by
  refine MI.start (by decide +kernel) (Nat.le_of_ble_eq_true rfl) ?_
  intro p e s m below meth c A ls hC hK hP hD hS hA hl
  have hl : lv_has ls 5 [(0, .ref h0), (1, .int 6), (2, .int 2), (3, .int xx)] := hl
  obtain ⟨hx, hb, hr, hml, hB, hown, hlocks, hnm⟩ := id hC
  refine lv_iload_n hx hb dX12_bodyFrom_0 rfl (lv_at hl 1 rfl) ?_
  refine lv_istore (lv' := [(4, .int 6), (0, .ref h0), (1, .int 6), (2, .int 2), (3, .int xx)]) hx hb dX12_bodyFrom_1 hl (by decide) rfl (fun ls hl => ?_)
  refine lv_iload hx hb dX12_bodyFrom_3 (lv_at hl 0 rfl) ?_
  refine lv_iload_n hx hb dX12_bodyFrom_5 rfl (lv_at hl 3 rfl) ?_
  refine pS hC hK hl (m_hasOwn62 l G) si_X12_360 rfl rfl (Nat.le_of_ble_eq_true rfl) ⟨Nat.le_of_ble_eq_true rfl, Nat.le_of_ble_eq_true rfl⟩ ⟨by first | exact Nat.le_of_ble_eq_true rfl | exact Nat.zero_le _, by first | exact Nat.le_of_ble_eq_true rfl | exact Nat.zero_le _⟩ dX12_bodyFrom_6 (fun r6375 hr6375 => ?_)
  obtain rfl := hr6375
  refine lv_if_ne (tgt := 22) hx hb dX12_bodyFrom_9 (by decide) (fun c9 => absurd (by decide) c9) (fun _ => ?_)
  refine lv_iload hx hb dX12_bodyFrom_12 (lv_at hl 0 rfl) ?_
  refine pS hC hK hl (m_above6 l G) si_X12_348 rfl rfl (Nat.le_of_ble_eq_true rfl) ⟨Nat.le_of_ble_eq_true rfl, Nat.le_of_ble_eq_true rfl⟩ ⟨by first | exact Nat.le_of_ble_eq_true rfl | exact Nat.zero_le _, by first | exact Nat.le_of_ble_eq_true rfl | exact Nat.zero_le _⟩ dX12_bodyFrom_14 (fun r6377 hr6377 => ?_)
  obtain rfl := hr6377
  refine lv_istore (lv' := [(4, .int 0), (0, .ref h0), (1, .int 6), (2, .int 2), (3, .int xx)]) hx hb dX12_bodyFrom_17 hl (by decide) rfl (fun ls hl => ?_)
  refine lv_goto (tgt := 3) hx hb dX12_bodyFrom_19 (by decide) ?_
  refine lv_iload hx hb dX12_bodyFrom_3 (lv_at hl 0 rfl) ?_
  refine lv_iload_n hx hb dX12_bodyFrom_5 rfl (lv_at hl 3 rfl) ?_
  refine pS hC hK hl (m_hasOwn02 l G) si_X12_360 rfl rfl (Nat.le_of_ble_eq_true rfl) ⟨Nat.le_of_ble_eq_true rfl, Nat.le_of_ble_eq_true rfl⟩ ⟨by first | exact Nat.le_of_ble_eq_true rfl | exact Nat.zero_le _, by first | exact Nat.le_of_ble_eq_true rfl | exact Nat.zero_le _⟩ dX12_bodyFrom_6 (fun r6379 hr6379 => ?_)
  obtain rfl := hr6379
  refine lv_if_ne (tgt := 22) hx hb dX12_bodyFrom_9 (by decide) (fun _ => ?_) (fun c9 => absurd c9 (by decide))
  refine lv_aload_n hx hb dX12_bodyFrom_22 rfl (lv_at hl 1 rfl) ?_
  refine lv_iload hx hb dX12_bodyFrom_23 (lv_at hl 0 rfl) ?_
  refine lv_iload_n hx hb dX12_bodyFrom_25 rfl (lv_at hl 3 rfl) ?_
  refine lv_iload_n hx hb dX12_bodyFrom_26 rfl (lv_at hl 4 rfl) ?_
  refine iV (wr := []) hC hK hl hP hD hS hA (m_body02 l G h0 xx nw nk mhasKept nt mtaped nr mrowMany mroundOf mroundFrom mouts nm mfromHour mtoHour ns mfrom mto msort misFault mdeep mcoded mlines nl nc nF np ntr nb mbestCost nso nsi nit nsh nsf nss nrc jr jd mnumber mwhose msize misParted fnrc (by omega) (by omega)) si_X12_363 [0, 1] [] rfl rfl (by decide) rfl (by decide) (by decide) rfl rfl rfl rfl rfl (Nat.le_of_ble_eq_true rfl) ⟨Nat.le_of_ble_eq_true rfl, Nat.le_of_ble_eq_true rfl⟩ ⟨Nat.le_of_ble_eq_true rfl, Nat.le_of_ble_eq_true rfl⟩ dX12_bodyFrom_27 (fun r6381 u6382 H locs hr6381 hP hD hS => ?_)
  obtain ⟨jr16383, ip16384, gtrc6385⟩ := u6382
  try dsimp only at hr6381
  have hP : va_P G.1 vwCl [(h0, .inr (12, [.ref nw, .ref nk, .int mhasKept, .ref nt, .int mtaped, .ref nr, .int mrowMany, .int mroundOf, .int mroundFrom, .int mouts, .ref nm, .int mfromHour, .int mtoHour, .ref ns, .int mfrom, .int mto, .int msort, .int misFault, .int mdeep, .int mcoded, .int mlines, .ref nl, .ref nc, .ref nF, .ref np, .ref ntr, .ref nb, .int mbestCost, .ref nso, .ref nsi, .ref nit, .ref nsh, .ref nsf, .ref nss, .ref nrc, .int (nI jr16383), .int (nI jd), .int mnumber, .int mwhose, .int msize, .int ip16384])), (nrc, .inl (G.2.1, 30, .inl gtrc6385))] H := hP
  have hD : va_D A [(h0, .inr (12, [.ref nw, .ref nk, .int mhasKept, .ref nt, .int mtaped, .ref nr, .int mrowMany, .int mroundOf, .int mroundFrom, .int mouts, .ref nm, .int mfromHour, .int mtoHour, .ref ns, .int mfrom, .int mto, .int msort, .int misFault, .int mdeep, .int mcoded, .int mlines, .ref nl, .ref nc, .ref nF, .ref np, .ref ntr, .ref nb, .int mbestCost, .ref nso, .ref nsi, .ref nit, .ref nsh, .ref nsf, .ref nss, .ref nrc, .int (nI jr16383), .int (nI jd), .int mnumber, .int mwhose, .int msize, .int ip16384])), (nrc, .inl (G.2.1, 30, .inl gtrc6385))] := hD
  obtain ⟨hr6381, w6386⟩ := hr6381
  exact RI (v := r6381) hC hP hD hS [0, 1] (jr16383, ip16384, gtrc6385) rfl rfl (by decide) (⟨trivial, by omega⟩) rfl dX12_bodyFrom_30
set_option maxHeartbeats 4000000 in
set_option maxRecDepth 100000 in
theorem m_dealt2 (l : Launch) (G : GG) (h0 : Nat) (xx : Int32) (nw : Nat) (nk : Nat) (mhasKept : Int32) (nt : Nat) (mtaped : Int32) (nr : Nat) (mrowMany : Int32) (mroundOf : Int32) (mroundFrom : Int32) (mouts : Int32) (nm : Nat) (mfromHour : Int32) (mtoHour : Int32) (ns : Nat) (mfrom : Int32) (mto : Int32) (msort : Int32) (misFault : Int32) (mdeep : Int32) (mcoded : Int32) (mlines : Int32) (nl : Nat) (nc : Nat) (nF : Nat) (np : Nat) (ntr : Nat) (nb : Nat) (mbestCost : Int32) (nso : Nat) (nsi : Nat) (nit : Nat) (nsh : Nat) (nsf : Nat) (nss : Nat) (nrc : Nat) (jr : Nat) (jd : Nat) (mnumber : Int32) (mwhose : Int32) (msize : Int32) (misParted : Int32) (fnrc : Nat → Int32) (hjr : jr ≤ 30) (hjd : jd < 7) : MI l G yX12_dealt cX12_dealt 3 (some .int) 38 0 0 [.ref h0, .int 2, .int xx] [(h0, .inr (12, [.ref nw, .ref nk, .int mhasKept, .ref nt, .int mtaped, .ref nr, .int mrowMany, .int mroundOf, .int mroundFrom, .int mouts, .ref nm, .int mfromHour, .int mtoHour, .ref ns, .int mfrom, .int mto, .int msort, .int misFault, .int mdeep, .int mcoded, .int mlines, .ref nl, .ref nc, .ref nF, .ref np, .ref ntr, .ref nb, .int mbestCost, .ref nso, .ref nsi, .ref nit, .ref nsh, .ref nsf, .ref nss, .ref nrc, .int (nI jr), .int (nI jd), .int mnumber, .int mwhose, .int msize, .int misParted])), (nrc, .inl (G.2.1, 30, .inl fnrc))] (fun (r : Int32) (u : Nat × Int32 × (Nat → Int32)) => (True) ∧ (u.1 ≤ 30)) (fun u : Nat × Int32 × (Nat → Int32) => [(h0, .inr (12, [.ref nw, .ref nk, .int mhasKept, .ref nt, .int mtaped, .ref nr, .int mrowMany, .int mroundOf, .int mroundFrom, .int mouts, .ref nm, .int mfromHour, .int mtoHour, .ref ns, .int mfrom, .int mto, .int msort, .int misFault, .int mdeep, .int mcoded, .int mlines, .ref nl, .ref nc, .ref nF, .ref np, .ref ntr, .ref nb, .int mbestCost, .ref nso, .ref nsi, .ref nit, .ref nsh, .ref nsf, .ref nss, .ref nrc, .int (nI u.1), .int (nI jd), .int mnumber, .int mwhose, .int msize, .int u.2.1])), (nrc, .inl (G.2.1, 30, .inl u.2.2))]) := by
  refine MI.start (by decide +kernel) (Nat.le_of_ble_eq_true rfl) ?_
  intro p e s m below meth c A ls hC hK hP hD hS hA hl
  have hl : lv_has ls 3 [(0, .ref h0), (1, .int 2), (2, .int xx)] := hl
  obtain ⟨hx, hb, hr, hml, hB, hown, hlocks, hnm⟩ := id hC
  refine lv_aload_n hx hb dX12_dealt_0 rfl (lv_at hl 0 rfl) ?_
  refine lv_aload_n hx hb dX12_dealt_1 rfl (lv_at hl 0 rfl) ?_
  refine gf_X12_354 hC rfl hK hP 0 rfl rfl dX12_dealt_2 ?_
  refine lv_iload_n hx hb dX12_dealt_5 rfl (lv_at hl 1 rfl) ?_
  refine lv_iload_n hx hb dX12_dealt_6 rfl (lv_at hl 2 rfl) ?_
  rcases (show jd = 0 ∨ jd = 1 ∨ jd = 2 ∨ jd = 3 ∨ jd = 4 ∨ jd = 5 ∨ jd = 6 by omega) with rfl | rfl | rfl | rfl | rfl | rfl | rfl
  · refine iV (wr := []) hC hK hl hP hD hS hA (m_from02 l G h0 xx nw nk mhasKept nt mtaped nr mrowMany mroundOf mroundFrom mouts nm mfromHour mtoHour ns mfrom mto msort misFault mdeep mcoded mlines nl nc nF np ntr nb mbestCost nso nsi nit nsh nsf nss nrc jr 0 mnumber mwhose msize misParted fnrc (by omega) (by omega)) si_X12_357 [0, 1] [] rfl rfl (by decide) rfl (by decide) (by decide) rfl rfl rfl rfl rfl (Nat.le_of_ble_eq_true rfl) ⟨Nat.le_of_ble_eq_true rfl, Nat.le_of_ble_eq_true rfl⟩ ⟨Nat.le_of_ble_eq_true rfl, Nat.le_of_ble_eq_true rfl⟩ dX12_dealt_7 (fun r6387 u6388 H locs hr6387 hP hD hS => ?_)
    obtain ⟨jr16389, ip16390, gtrc6391⟩ := u6388
    try dsimp only at hr6387
    have hP : va_P G.1 vwCl [(h0, .inr (12, [.ref nw, .ref nk, .int mhasKept, .ref nt, .int mtaped, .ref nr, .int mrowMany, .int mroundOf, .int mroundFrom, .int mouts, .ref nm, .int mfromHour, .int mtoHour, .ref ns, .int mfrom, .int mto, .int msort, .int misFault, .int mdeep, .int mcoded, .int mlines, .ref nl, .ref nc, .ref nF, .ref np, .ref ntr, .ref nb, .int mbestCost, .ref nso, .ref nsi, .ref nit, .ref nsh, .ref nsf, .ref nss, .ref nrc, .int (nI jr16389), .int 0, .int mnumber, .int mwhose, .int msize, .int ip16390])), (nrc, .inl (G.2.1, 30, .inl gtrc6391))] H := hP
    have hD : va_D A [(h0, .inr (12, [.ref nw, .ref nk, .int mhasKept, .ref nt, .int mtaped, .ref nr, .int mrowMany, .int mroundOf, .int mroundFrom, .int mouts, .ref nm, .int mfromHour, .int mtoHour, .ref ns, .int mfrom, .int mto, .int msort, .int misFault, .int mdeep, .int mcoded, .int mlines, .ref nl, .ref nc, .ref nF, .ref np, .ref ntr, .ref nb, .int mbestCost, .ref nso, .ref nsi, .ref nit, .ref nsh, .ref nsf, .ref nss, .ref nrc, .int (nI jr16389), .int 0, .int mnumber, .int mwhose, .int msize, .int ip16390])), (nrc, .inl (G.2.1, 30, .inl gtrc6391))] := hD
    obtain ⟨hr6387, w6392⟩ := hr6387
    exact RI (v := r6387) hC hP hD hS [0, 1] (jr16389, ip16390, gtrc6391) rfl rfl (by decide) (⟨trivial, by omega⟩) rfl dX12_dealt_10
  · refine iV (wr := []) hC hK hl hP hD hS hA (m_from12 l G h0 xx nw nk mhasKept nt mtaped nr mrowMany mroundOf mroundFrom mouts nm mfromHour mtoHour ns mfrom mto msort misFault mdeep mcoded mlines nl nc nF np ntr nb mbestCost nso nsi nit nsh nsf nss nrc jr 1 mnumber mwhose msize misParted fnrc (by omega) (by omega)) si_X12_357 [0, 1] [] rfl rfl (by decide) rfl (by decide) (by decide) rfl rfl rfl rfl rfl (Nat.le_of_ble_eq_true rfl) ⟨Nat.le_of_ble_eq_true rfl, Nat.le_of_ble_eq_true rfl⟩ ⟨Nat.le_of_ble_eq_true rfl, Nat.le_of_ble_eq_true rfl⟩ dX12_dealt_7 (fun r6393 u6394 H locs hr6393 hP hD hS => ?_)
    obtain ⟨jr16395, ip16396, gtrc6397⟩ := u6394
    try dsimp only at hr6393
    have hP : va_P G.1 vwCl [(h0, .inr (12, [.ref nw, .ref nk, .int mhasKept, .ref nt, .int mtaped, .ref nr, .int mrowMany, .int mroundOf, .int mroundFrom, .int mouts, .ref nm, .int mfromHour, .int mtoHour, .ref ns, .int mfrom, .int mto, .int msort, .int misFault, .int mdeep, .int mcoded, .int mlines, .ref nl, .ref nc, .ref nF, .ref np, .ref ntr, .ref nb, .int mbestCost, .ref nso, .ref nsi, .ref nit, .ref nsh, .ref nsf, .ref nss, .ref nrc, .int (nI jr16395), .int 1, .int mnumber, .int mwhose, .int msize, .int ip16396])), (nrc, .inl (G.2.1, 30, .inl gtrc6397))] H := hP
    have hD : va_D A [(h0, .inr (12, [.ref nw, .ref nk, .int mhasKept, .ref nt, .int mtaped, .ref nr, .int mrowMany, .int mroundOf, .int mroundFrom, .int mouts, .ref nm, .int mfromHour, .int mtoHour, .ref ns, .int mfrom, .int mto, .int msort, .int misFault, .int mdeep, .int mcoded, .int mlines, .ref nl, .ref nc, .ref nF, .ref np, .ref ntr, .ref nb, .int mbestCost, .ref nso, .ref nsi, .ref nit, .ref nsh, .ref nsf, .ref nss, .ref nrc, .int (nI jr16395), .int 1, .int mnumber, .int mwhose, .int msize, .int ip16396])), (nrc, .inl (G.2.1, 30, .inl gtrc6397))] := hD
    obtain ⟨hr6393, w6398⟩ := hr6393
    exact RI (v := r6393) hC hP hD hS [0, 1] (jr16395, ip16396, gtrc6397) rfl rfl (by decide) (⟨trivial, by omega⟩) rfl dX12_dealt_10
  · refine iV (wr := []) hC hK hl hP hD hS hA (m_from22 l G h0 xx nw nk mhasKept nt mtaped nr mrowMany mroundOf mroundFrom mouts nm mfromHour mtoHour ns mfrom mto msort misFault mdeep mcoded mlines nl nc nF np ntr nb mbestCost nso nsi nit nsh nsf nss nrc jr 2 mnumber mwhose msize misParted fnrc (by omega) (by omega)) si_X12_357 [0, 1] [] rfl rfl (by decide) rfl (by decide) (by decide) rfl rfl rfl rfl rfl (Nat.le_of_ble_eq_true rfl) ⟨Nat.le_of_ble_eq_true rfl, Nat.le_of_ble_eq_true rfl⟩ ⟨Nat.le_of_ble_eq_true rfl, Nat.le_of_ble_eq_true rfl⟩ dX12_dealt_7 (fun r6399 u6400 H locs hr6399 hP hD hS => ?_)
    obtain ⟨jr16401, ip16402, gtrc6403⟩ := u6400
    try dsimp only at hr6399
    have hP : va_P G.1 vwCl [(h0, .inr (12, [.ref nw, .ref nk, .int mhasKept, .ref nt, .int mtaped, .ref nr, .int mrowMany, .int mroundOf, .int mroundFrom, .int mouts, .ref nm, .int mfromHour, .int mtoHour, .ref ns, .int mfrom, .int mto, .int msort, .int misFault, .int mdeep, .int mcoded, .int mlines, .ref nl, .ref nc, .ref nF, .ref np, .ref ntr, .ref nb, .int mbestCost, .ref nso, .ref nsi, .ref nit, .ref nsh, .ref nsf, .ref nss, .ref nrc, .int (nI jr16401), .int 2, .int mnumber, .int mwhose, .int msize, .int ip16402])), (nrc, .inl (G.2.1, 30, .inl gtrc6403))] H := hP
    have hD : va_D A [(h0, .inr (12, [.ref nw, .ref nk, .int mhasKept, .ref nt, .int mtaped, .ref nr, .int mrowMany, .int mroundOf, .int mroundFrom, .int mouts, .ref nm, .int mfromHour, .int mtoHour, .ref ns, .int mfrom, .int mto, .int msort, .int misFault, .int mdeep, .int mcoded, .int mlines, .ref nl, .ref nc, .ref nF, .ref np, .ref ntr, .ref nb, .int mbestCost, .ref nso, .ref nsi, .ref nit, .ref nsh, .ref nsf, .ref nss, .ref nrc, .int (nI jr16401), .int 2, .int mnumber, .int mwhose, .int msize, .int ip16402])), (nrc, .inl (G.2.1, 30, .inl gtrc6403))] := hD
    obtain ⟨hr6399, w6404⟩ := hr6399
    exact RI (v := r6399) hC hP hD hS [0, 1] (jr16401, ip16402, gtrc6403) rfl rfl (by decide) (⟨trivial, by omega⟩) rfl dX12_dealt_10
  · refine iV (wr := []) hC hK hl hP hD hS hA (m_from32 l G h0 xx nw nk mhasKept nt mtaped nr mrowMany mroundOf mroundFrom mouts nm mfromHour mtoHour ns mfrom mto msort misFault mdeep mcoded mlines nl nc nF np ntr nb mbestCost nso nsi nit nsh nsf nss nrc jr 3 mnumber mwhose msize misParted fnrc (by omega) (by omega)) si_X12_357 [0, 1] [] rfl rfl (by decide) rfl (by decide) (by decide) rfl rfl rfl rfl rfl (Nat.le_of_ble_eq_true rfl) ⟨Nat.le_of_ble_eq_true rfl, Nat.le_of_ble_eq_true rfl⟩ ⟨Nat.le_of_ble_eq_true rfl, Nat.le_of_ble_eq_true rfl⟩ dX12_dealt_7 (fun r6405 u6406 H locs hr6405 hP hD hS => ?_)
    obtain ⟨jr16407, ip16408, gtrc6409⟩ := u6406
    try dsimp only at hr6405
    have hP : va_P G.1 vwCl [(h0, .inr (12, [.ref nw, .ref nk, .int mhasKept, .ref nt, .int mtaped, .ref nr, .int mrowMany, .int mroundOf, .int mroundFrom, .int mouts, .ref nm, .int mfromHour, .int mtoHour, .ref ns, .int mfrom, .int mto, .int msort, .int misFault, .int mdeep, .int mcoded, .int mlines, .ref nl, .ref nc, .ref nF, .ref np, .ref ntr, .ref nb, .int mbestCost, .ref nso, .ref nsi, .ref nit, .ref nsh, .ref nsf, .ref nss, .ref nrc, .int (nI jr16407), .int 3, .int mnumber, .int mwhose, .int msize, .int ip16408])), (nrc, .inl (G.2.1, 30, .inl gtrc6409))] H := hP
    have hD : va_D A [(h0, .inr (12, [.ref nw, .ref nk, .int mhasKept, .ref nt, .int mtaped, .ref nr, .int mrowMany, .int mroundOf, .int mroundFrom, .int mouts, .ref nm, .int mfromHour, .int mtoHour, .ref ns, .int mfrom, .int mto, .int msort, .int misFault, .int mdeep, .int mcoded, .int mlines, .ref nl, .ref nc, .ref nF, .ref np, .ref ntr, .ref nb, .int mbestCost, .ref nso, .ref nsi, .ref nit, .ref nsh, .ref nsf, .ref nss, .ref nrc, .int (nI jr16407), .int 3, .int mnumber, .int mwhose, .int msize, .int ip16408])), (nrc, .inl (G.2.1, 30, .inl gtrc6409))] := hD
    obtain ⟨hr6405, w6410⟩ := hr6405
    exact RI (v := r6405) hC hP hD hS [0, 1] (jr16407, ip16408, gtrc6409) rfl rfl (by decide) (⟨trivial, by omega⟩) rfl dX12_dealt_10
  · refine iV (wr := []) hC hK hl hP hD hS hA (m_from42 l G h0 xx nw nk mhasKept nt mtaped nr mrowMany mroundOf mroundFrom mouts nm mfromHour mtoHour ns mfrom mto msort misFault mdeep mcoded mlines nl nc nF np ntr nb mbestCost nso nsi nit nsh nsf nss nrc jr 4 mnumber mwhose msize misParted fnrc (by omega) (by omega)) si_X12_357 [0, 1] [] rfl rfl (by decide) rfl (by decide) (by decide) rfl rfl rfl rfl rfl (Nat.le_of_ble_eq_true rfl) ⟨Nat.le_of_ble_eq_true rfl, Nat.le_of_ble_eq_true rfl⟩ ⟨Nat.le_of_ble_eq_true rfl, Nat.le_of_ble_eq_true rfl⟩ dX12_dealt_7 (fun r6411 u6412 H locs hr6411 hP hD hS => ?_)
    obtain ⟨jr16413, ip16414, gtrc6415⟩ := u6412
    try dsimp only at hr6411
    have hP : va_P G.1 vwCl [(h0, .inr (12, [.ref nw, .ref nk, .int mhasKept, .ref nt, .int mtaped, .ref nr, .int mrowMany, .int mroundOf, .int mroundFrom, .int mouts, .ref nm, .int mfromHour, .int mtoHour, .ref ns, .int mfrom, .int mto, .int msort, .int misFault, .int mdeep, .int mcoded, .int mlines, .ref nl, .ref nc, .ref nF, .ref np, .ref ntr, .ref nb, .int mbestCost, .ref nso, .ref nsi, .ref nit, .ref nsh, .ref nsf, .ref nss, .ref nrc, .int (nI jr16413), .int 4, .int mnumber, .int mwhose, .int msize, .int ip16414])), (nrc, .inl (G.2.1, 30, .inl gtrc6415))] H := hP
    have hD : va_D A [(h0, .inr (12, [.ref nw, .ref nk, .int mhasKept, .ref nt, .int mtaped, .ref nr, .int mrowMany, .int mroundOf, .int mroundFrom, .int mouts, .ref nm, .int mfromHour, .int mtoHour, .ref ns, .int mfrom, .int mto, .int msort, .int misFault, .int mdeep, .int mcoded, .int mlines, .ref nl, .ref nc, .ref nF, .ref np, .ref ntr, .ref nb, .int mbestCost, .ref nso, .ref nsi, .ref nit, .ref nsh, .ref nsf, .ref nss, .ref nrc, .int (nI jr16413), .int 4, .int mnumber, .int mwhose, .int msize, .int ip16414])), (nrc, .inl (G.2.1, 30, .inl gtrc6415))] := hD
    obtain ⟨hr6411, w6416⟩ := hr6411
    exact RI (v := r6411) hC hP hD hS [0, 1] (jr16413, ip16414, gtrc6415) rfl rfl (by decide) (⟨trivial, by omega⟩) rfl dX12_dealt_10
  · refine iV (wr := []) hC hK hl hP hD hS hA (m_from52 l G h0 xx nw nk mhasKept nt mtaped nr mrowMany mroundOf mroundFrom mouts nm mfromHour mtoHour ns mfrom mto msort misFault mdeep mcoded mlines nl nc nF np ntr nb mbestCost nso nsi nit nsh nsf nss nrc jr 5 mnumber mwhose msize misParted fnrc (by omega) (by omega)) si_X12_357 [0, 1] [] rfl rfl (by decide) rfl (by decide) (by decide) rfl rfl rfl rfl rfl (Nat.le_of_ble_eq_true rfl) ⟨Nat.le_of_ble_eq_true rfl, Nat.le_of_ble_eq_true rfl⟩ ⟨Nat.le_of_ble_eq_true rfl, Nat.le_of_ble_eq_true rfl⟩ dX12_dealt_7 (fun r6417 u6418 H locs hr6417 hP hD hS => ?_)
    obtain ⟨jr16419, ip16420, gtrc6421⟩ := u6418
    try dsimp only at hr6417
    have hP : va_P G.1 vwCl [(h0, .inr (12, [.ref nw, .ref nk, .int mhasKept, .ref nt, .int mtaped, .ref nr, .int mrowMany, .int mroundOf, .int mroundFrom, .int mouts, .ref nm, .int mfromHour, .int mtoHour, .ref ns, .int mfrom, .int mto, .int msort, .int misFault, .int mdeep, .int mcoded, .int mlines, .ref nl, .ref nc, .ref nF, .ref np, .ref ntr, .ref nb, .int mbestCost, .ref nso, .ref nsi, .ref nit, .ref nsh, .ref nsf, .ref nss, .ref nrc, .int (nI jr16419), .int 5, .int mnumber, .int mwhose, .int msize, .int ip16420])), (nrc, .inl (G.2.1, 30, .inl gtrc6421))] H := hP
    have hD : va_D A [(h0, .inr (12, [.ref nw, .ref nk, .int mhasKept, .ref nt, .int mtaped, .ref nr, .int mrowMany, .int mroundOf, .int mroundFrom, .int mouts, .ref nm, .int mfromHour, .int mtoHour, .ref ns, .int mfrom, .int mto, .int msort, .int misFault, .int mdeep, .int mcoded, .int mlines, .ref nl, .ref nc, .ref nF, .ref np, .ref ntr, .ref nb, .int mbestCost, .ref nso, .ref nsi, .ref nit, .ref nsh, .ref nsf, .ref nss, .ref nrc, .int (nI jr16419), .int 5, .int mnumber, .int mwhose, .int msize, .int ip16420])), (nrc, .inl (G.2.1, 30, .inl gtrc6421))] := hD
    obtain ⟨hr6417, w6422⟩ := hr6417
    exact RI (v := r6417) hC hP hD hS [0, 1] (jr16419, ip16420, gtrc6421) rfl rfl (by decide) (⟨trivial, by omega⟩) rfl dX12_dealt_10
  · refine iV (wr := []) hC hK hl hP hD hS hA (m_from62 l G h0 xx nw nk mhasKept nt mtaped nr mrowMany mroundOf mroundFrom mouts nm mfromHour mtoHour ns mfrom mto msort misFault mdeep mcoded mlines nl nc nF np ntr nb mbestCost nso nsi nit nsh nsf nss nrc jr 6 mnumber mwhose msize misParted fnrc (by omega) (by omega)) si_X12_357 [0, 1] [] rfl rfl (by decide) rfl (by decide) (by decide) rfl rfl rfl rfl rfl (Nat.le_of_ble_eq_true rfl) ⟨Nat.le_of_ble_eq_true rfl, Nat.le_of_ble_eq_true rfl⟩ ⟨Nat.le_of_ble_eq_true rfl, Nat.le_of_ble_eq_true rfl⟩ dX12_dealt_7 (fun r6423 u6424 H locs hr6423 hP hD hS => ?_)
    obtain ⟨jr16425, ip16426, gtrc6427⟩ := u6424
    try dsimp only at hr6423
    have hP : va_P G.1 vwCl [(h0, .inr (12, [.ref nw, .ref nk, .int mhasKept, .ref nt, .int mtaped, .ref nr, .int mrowMany, .int mroundOf, .int mroundFrom, .int mouts, .ref nm, .int mfromHour, .int mtoHour, .ref ns, .int mfrom, .int mto, .int msort, .int misFault, .int mdeep, .int mcoded, .int mlines, .ref nl, .ref nc, .ref nF, .ref np, .ref ntr, .ref nb, .int mbestCost, .ref nso, .ref nsi, .ref nit, .ref nsh, .ref nsf, .ref nss, .ref nrc, .int (nI jr16425), .int 6, .int mnumber, .int mwhose, .int msize, .int ip16426])), (nrc, .inl (G.2.1, 30, .inl gtrc6427))] H := hP
    have hD : va_D A [(h0, .inr (12, [.ref nw, .ref nk, .int mhasKept, .ref nt, .int mtaped, .ref nr, .int mrowMany, .int mroundOf, .int mroundFrom, .int mouts, .ref nm, .int mfromHour, .int mtoHour, .ref ns, .int mfrom, .int mto, .int msort, .int misFault, .int mdeep, .int mcoded, .int mlines, .ref nl, .ref nc, .ref nF, .ref np, .ref ntr, .ref nb, .int mbestCost, .ref nso, .ref nsi, .ref nit, .ref nsh, .ref nsf, .ref nss, .ref nrc, .int (nI jr16425), .int 6, .int mnumber, .int mwhose, .int msize, .int ip16426])), (nrc, .inl (G.2.1, 30, .inl gtrc6427))] := hD
    obtain ⟨hr6423, w6428⟩ := hr6423
    exact RI (v := r6423) hC hP hD hS [0, 1] (jr16425, ip16426, gtrc6427) rfl rfl (by decide) (⟨trivial, by omega⟩) rfl dX12_dealt_10
set_option maxHeartbeats 4000000 in
set_option maxRecDepth 100000 in
theorem m_body03 (l : Launch) (G : GG) (h0 : Nat) (xx : Int32) (nw : Nat) (nk : Nat) (mhasKept : Int32) (nt : Nat) (mtaped : Int32) (nr : Nat) (mrowMany : Int32) (mroundOf : Int32) (mroundFrom : Int32) (mouts : Int32) (nm : Nat) (mfromHour : Int32) (mtoHour : Int32) (ns : Nat) (mfrom : Int32) (mto : Int32) (msort : Int32) (misFault : Int32) (mdeep : Int32) (mcoded : Int32) (mlines : Int32) (nl : Nat) (nc : Nat) (nF : Nat) (np : Nat) (ntr : Nat) (nb : Nat) (mbestCost : Int32) (nso : Nat) (nsi : Nat) (nit : Nat) (nsh : Nat) (nsf : Nat) (nss : Nat) (nrc : Nat) (jr : Nat) (jd : Nat) (mnumber : Int32) (mwhose : Int32) (msize : Int32) (misParted : Int32) (fnrc : Nat → Int32) (hjr : jr ≤ 30) (hjd : jd < 7) : MI l G yX12_body cX12_body 6 (some .int) 39 0 0 [.ref h0, .int 0, .int 3, .int xx] [(h0, .inr (12, [.ref nw, .ref nk, .int mhasKept, .ref nt, .int mtaped, .ref nr, .int mrowMany, .int mroundOf, .int mroundFrom, .int mouts, .ref nm, .int mfromHour, .int mtoHour, .ref ns, .int mfrom, .int mto, .int msort, .int misFault, .int mdeep, .int mcoded, .int mlines, .ref nl, .ref nc, .ref nF, .ref np, .ref ntr, .ref nb, .int mbestCost, .ref nso, .ref nsi, .ref nit, .ref nsh, .ref nsf, .ref nss, .ref nrc, .int (nI jr), .int (nI jd), .int mnumber, .int mwhose, .int msize, .int misParted])), (nrc, .inl (G.2.1, 30, .inl fnrc))] (fun (r : Int32) (u : Nat × Int32 × (Nat → Int32)) => (True) ∧ (u.1 ≤ 30)) (fun u : Nat × Int32 × (Nat → Int32) => [(h0, .inr (12, [.ref nw, .ref nk, .int mhasKept, .ref nt, .int mtaped, .ref nr, .int mrowMany, .int mroundOf, .int mroundFrom, .int mouts, .ref nm, .int mfromHour, .int mtoHour, .ref ns, .int mfrom, .int mto, .int msort, .int misFault, .int mdeep, .int mcoded, .int mlines, .ref nl, .ref nc, .ref nF, .ref np, .ref ntr, .ref nb, .int mbestCost, .ref nso, .ref nsi, .ref nit, .ref nsh, .ref nsf, .ref nss, .ref nrc, .int (nI u.1), .int (nI jd), .int mnumber, .int mwhose, .int msize, .int u.2.1])), (nrc, .inl (G.2.1, 30, .inl u.2.2))]) := by
  refine MI.start (by decide +kernel) (Nat.le_of_ble_eq_true rfl) ?_
  intro p e s m below meth c A ls hC hK hP hD hS hA hl
  have hl : lv_has ls 6 [(0, .ref h0), (1, .int 0), (2, .int 3), (3, .int xx)] := hl
  obtain ⟨hx, hb, hr, hml, hB, hown, hlocks, hnm⟩ := id hC
  refine lv_iconst (v := 4) hx hb dX12_body_0 (by decide) ?_
  refine lv_iload_n hx hb dX12_body_1 rfl (lv_at hl 1 rfl) ?_
  refine lv_imul hx hb dX12_body_2 ?_
  refine eqi (x1 := 0) (by decide) ?_
  refine lv_iload_n hx hb dX12_body_3 rfl (lv_at hl 2 rfl) ?_
  refine lv_iadd hx hb dX12_body_4 ?_
  refine eqi (x1 := 3) (by decide) ?_
  refine lv_tableIn (tgt := 158) hx hb dX12_body_5 (by decide) (by decide) rfl (by decide) ?_
  refine lv_aload_n hx hb dX12_body_158 rfl (lv_at hl 0 rfl) ?_
  refine lv_bipush (v := 13) hx hb dX12_body_159 (by decide) ?_
  refine vV (wr := []) hC hK hl hP hD hS hA (m_began l G h0 13 nw nk mhasKept nt mtaped nr mrowMany mroundOf mroundFrom mouts nm mfromHour mtoHour ns mfrom mto msort misFault mdeep mcoded mlines nl nc nF np ntr nb mbestCost nso nsi nit nsh nsf nss nrc jr (nI jd) mnumber mwhose msize misParted fnrc (by omega)) si_X12_366 [0, 1] [] rfl rfl (by decide) rfl (by decide) (by decide) rfl rfl rfl rfl rfl (Nat.le_of_ble_eq_true rfl) ⟨Nat.le_of_ble_eq_true rfl, Nat.le_of_ble_eq_true rfl⟩ ⟨Nat.le_of_ble_eq_true rfl, Nat.le_of_ble_eq_true rfl⟩ dX12_body_161 (fun u6430 H locs hr6429 hP hD hS => ?_)
  obtain ⟨jr16431, gtrc6432⟩ := u6430
  try dsimp only at hr6429
  have hP : va_P G.1 vwCl [(h0, .inr (12, [.ref nw, .ref nk, .int mhasKept, .ref nt, .int mtaped, .ref nr, .int mrowMany, .int mroundOf, .int mroundFrom, .int mouts, .ref nm, .int mfromHour, .int mtoHour, .ref ns, .int mfrom, .int mto, .int msort, .int misFault, .int mdeep, .int mcoded, .int mlines, .ref nl, .ref nc, .ref nF, .ref np, .ref ntr, .ref nb, .int mbestCost, .ref nso, .ref nsi, .ref nit, .ref nsh, .ref nsf, .ref nss, .ref nrc, .int (nI jr16431), .int (nI jd), .int mnumber, .int mwhose, .int msize, .int misParted])), (nrc, .inl (G.2.1, 30, .inl gtrc6432))] H := hP
  have hD : va_D A [(h0, .inr (12, [.ref nw, .ref nk, .int mhasKept, .ref nt, .int mtaped, .ref nr, .int mrowMany, .int mroundOf, .int mroundFrom, .int mouts, .ref nm, .int mfromHour, .int mtoHour, .ref ns, .int mfrom, .int mto, .int msort, .int misFault, .int mdeep, .int mcoded, .int mlines, .ref nl, .ref nc, .ref nF, .ref np, .ref ntr, .ref nb, .int mbestCost, .ref nso, .ref nsi, .ref nit, .ref nsh, .ref nsf, .ref nss, .ref nrc, .int (nI jr16431), .int (nI jd), .int mnumber, .int mwhose, .int msize, .int misParted])), (nrc, .inl (G.2.1, 30, .inl gtrc6432))] := hD
  have w6433 := hr6429
  refine lv_aload_n hx hb dX12_body_164 rfl (lv_at hl 0 rfl) ?_
  refine lv_aload_n hx hb dX12_body_165 rfl (lv_at hl 0 rfl) ?_
  refine gf_X12_375 hC rfl hK hP 0 rfl rfl dX12_body_166 ?_
  refine lv_aload_n hx hb dX12_body_169 rfl (lv_at hl 0 rfl) ?_
  refine gf_X12_378 hC rfl hK hP 0 rfl rfl dX12_body_170 ?_
  refine lv_icmp_ne (tgt := 180) hx hb dX12_body_173 (by decide) (fun c_173_6434 => ?_) (fun c_173_6434 => ?_)
  · refine lv_iconst (v := 0) hx hb dX12_body_180 (by decide) ?_
    refine pf_X12_380 hC rfl hK hP hD hS 0 (ws' := [(h0, .inr (12, [.ref nw, .ref nk, .int mhasKept, .ref nt, .int mtaped, .ref nr, .int mrowMany, .int mroundOf, .int mroundFrom, .int mouts, .ref nm, .int mfromHour, .int mtoHour, .ref ns, .int mfrom, .int mto, .int msort, .int misFault, .int mdeep, .int mcoded, .int mlines, .ref nl, .ref nc, .ref nF, .ref np, .ref ntr, .ref nb, .int mbestCost, .ref nso, .ref nsi, .ref nit, .ref nsh, .ref nsf, .ref nss, .ref nrc, .int (nI jr16431), .int (nI jd), .int mnumber, .int mwhose, .int msize, .int 0])), (nrc, .inl (G.2.1, 30, .inl gtrc6432))]) rfl (Nat.le_of_ble_eq_true rfl) rfl (by decide +kernel) (by decide +kernel) dX12_body_181 (fun H locs hP hD hS => ?_)
    refine lv_aload_n hx hb dX12_body_184 rfl (lv_at hl 0 rfl) ?_
    refine gf_X12_380 hC rfl hK hP 0 rfl rfl dX12_body_185 ?_
    refine lv_if_eq (tgt := 195) hx hb dX12_body_188 (by decide) (fun _ => ?_) (fun c9 => absurd (by decide) c9)
    refine lv_iload_n hx hb dX12_body_195 rfl (lv_at hl 3 rfl) ?_
    refine lv_aload_n hx hb dX12_body_196 rfl (lv_at hl 0 rfl) ?_
    refine gf_X12_375 hC rfl hK hP 0 rfl rfl dX12_body_197 ?_
    refine lv_aload_n hx hb dX12_body_200 rfl (lv_at hl 0 rfl) ?_
    refine gf_X12_378 hC rfl hK hP 0 rfl rfl dX12_body_201 ?_
    refine lv_isub hx hb dX12_body_204 ?_
    refine lv_idiv hx hb dX12_body_205 (nz_sub c_173_6434) ?_
    refine lv_topi (fun x6435 ex6435 => ?_)
    exact RI (v := x6435) hC hP hD hS [0, 1] (jr16431, 0, gtrc6432) rfl rfl (by decide) (⟨trivial, by omega⟩) rfl dX12_body_206
  · refine lv_iconst (v := 1) hx hb dX12_body_176 (by decide) ?_
    refine lv_goto (tgt := 181) hx hb dX12_body_177 (by decide) ?_
    refine pf_X12_380 hC rfl hK hP hD hS 0 (ws' := [(h0, .inr (12, [.ref nw, .ref nk, .int mhasKept, .ref nt, .int mtaped, .ref nr, .int mrowMany, .int mroundOf, .int mroundFrom, .int mouts, .ref nm, .int mfromHour, .int mtoHour, .ref ns, .int mfrom, .int mto, .int msort, .int misFault, .int mdeep, .int mcoded, .int mlines, .ref nl, .ref nc, .ref nF, .ref np, .ref ntr, .ref nb, .int mbestCost, .ref nso, .ref nsi, .ref nit, .ref nsh, .ref nsf, .ref nss, .ref nrc, .int (nI jr16431), .int (nI jd), .int mnumber, .int mwhose, .int msize, .int 1])), (nrc, .inl (G.2.1, 30, .inl gtrc6432))]) rfl (Nat.le_of_ble_eq_true rfl) rfl (by decide +kernel) (by decide +kernel) dX12_body_181 (fun H locs hP hD hS => ?_)
    refine lv_aload_n hx hb dX12_body_184 rfl (lv_at hl 0 rfl) ?_
    refine gf_X12_380 hC rfl hK hP 0 rfl rfl dX12_body_185 ?_
    refine lv_if_eq (tgt := 195) hx hb dX12_body_188 (by decide) (fun c9 => absurd c9 (by decide)) (fun _ => ?_)
    refine lv_iconst (v := 0) hx hb dX12_body_191 (by decide) ?_
    refine lv_goto (tgt := 206) hx hb dX12_body_192 (by decide) ?_
    exact RI (v := 0) hC hP hD hS [0, 1] (jr16431, 1, gtrc6432) rfl rfl (by decide) (⟨trivial, by omega⟩) rfl dX12_body_206
set_option maxHeartbeats 4000000 in
set_option maxRecDepth 100000 in
theorem m_from03 (l : Launch) (G : GG) (h0 : Nat) (xx : Int32) (nw : Nat) (nk : Nat) (mhasKept : Int32) (nt : Nat) (mtaped : Int32) (nr : Nat) (mrowMany : Int32) (mroundOf : Int32) (mroundFrom : Int32) (mouts : Int32) (nm : Nat) (mfromHour : Int32) (mtoHour : Int32) (ns : Nat) (mfrom : Int32) (mto : Int32) (msort : Int32) (misFault : Int32) (mdeep : Int32) (mcoded : Int32) (mlines : Int32) (nl : Nat) (nc : Nat) (nF : Nat) (np : Nat) (ntr : Nat) (nb : Nat) (mbestCost : Int32) (nso : Nat) (nsi : Nat) (nit : Nat) (nsh : Nat) (nsf : Nat) (nss : Nat) (nrc : Nat) (jr : Nat) (jd : Nat) (mnumber : Int32) (mwhose : Int32) (msize : Int32) (misParted : Int32) (fnrc : Nat → Int32) (hjr : jr ≤ 30) (hjd : jd < 7) : MI l G yX12_bodyFrom cX12_bodyFrom 5 (some .int) 40 0 0 [.ref h0, .int 0, .int 3, .int xx] [(h0, .inr (12, [.ref nw, .ref nk, .int mhasKept, .ref nt, .int mtaped, .ref nr, .int mrowMany, .int mroundOf, .int mroundFrom, .int mouts, .ref nm, .int mfromHour, .int mtoHour, .ref ns, .int mfrom, .int mto, .int msort, .int misFault, .int mdeep, .int mcoded, .int mlines, .ref nl, .ref nc, .ref nF, .ref np, .ref ntr, .ref nb, .int mbestCost, .ref nso, .ref nsi, .ref nit, .ref nsh, .ref nsf, .ref nss, .ref nrc, .int (nI jr), .int (nI jd), .int mnumber, .int mwhose, .int msize, .int misParted])), (nrc, .inl (G.2.1, 30, .inl fnrc))] (fun (r : Int32) (u : Nat × Int32 × (Nat → Int32)) => (True) ∧ (u.1 ≤ 30)) (fun u : Nat × Int32 × (Nat → Int32) => [(h0, .inr (12, [.ref nw, .ref nk, .int mhasKept, .ref nt, .int mtaped, .ref nr, .int mrowMany, .int mroundOf, .int mroundFrom, .int mouts, .ref nm, .int mfromHour, .int mtoHour, .ref ns, .int mfrom, .int mto, .int msort, .int misFault, .int mdeep, .int mcoded, .int mlines, .ref nl, .ref nc, .ref nF, .ref np, .ref ntr, .ref nb, .int mbestCost, .ref nso, .ref nsi, .ref nit, .ref nsh, .ref nsf, .ref nss, .ref nrc, .int (nI u.1), .int (nI jd), .int mnumber, .int mwhose, .int msize, .int u.2.1])), (nrc, .inl (G.2.1, 30, .inl u.2.2))]) := by
  refine MI.start (by decide +kernel) (Nat.le_of_ble_eq_true rfl) ?_
  intro p e s m below meth c A ls hC hK hP hD hS hA hl
  have hl : lv_has ls 5 [(0, .ref h0), (1, .int 0), (2, .int 3), (3, .int xx)] := hl
  obtain ⟨hx, hb, hr, hml, hB, hown, hlocks, hnm⟩ := id hC
  refine lv_iload_n hx hb dX12_bodyFrom_0 rfl (lv_at hl 1 rfl) ?_
  refine lv_istore (lv' := [(4, .int 0), (0, .ref h0), (1, .int 0), (2, .int 3), (3, .int xx)]) hx hb dX12_bodyFrom_1 hl (by decide) rfl (fun ls hl => ?_)
  refine lv_iload hx hb dX12_bodyFrom_3 (lv_at hl 0 rfl) ?_
  refine lv_iload_n hx hb dX12_bodyFrom_5 rfl (lv_at hl 3 rfl) ?_
  refine pS hC hK hl (m_hasOwn03 l G) si_X12_360 rfl rfl (Nat.le_of_ble_eq_true rfl) ⟨Nat.le_of_ble_eq_true rfl, Nat.le_of_ble_eq_true rfl⟩ ⟨by first | exact Nat.le_of_ble_eq_true rfl | exact Nat.zero_le _, by first | exact Nat.le_of_ble_eq_true rfl | exact Nat.zero_le _⟩ dX12_bodyFrom_6 (fun r6436 hr6436 => ?_)
  obtain rfl := hr6436
  refine lv_if_ne (tgt := 22) hx hb dX12_bodyFrom_9 (by decide) (fun _ => ?_) (fun c9 => absurd c9 (by decide))
  refine lv_aload_n hx hb dX12_bodyFrom_22 rfl (lv_at hl 1 rfl) ?_
  refine lv_iload hx hb dX12_bodyFrom_23 (lv_at hl 0 rfl) ?_
  refine lv_iload_n hx hb dX12_bodyFrom_25 rfl (lv_at hl 3 rfl) ?_
  refine lv_iload_n hx hb dX12_bodyFrom_26 rfl (lv_at hl 4 rfl) ?_
  refine iV (wr := []) hC hK hl hP hD hS hA (m_body03 l G h0 xx nw nk mhasKept nt mtaped nr mrowMany mroundOf mroundFrom mouts nm mfromHour mtoHour ns mfrom mto msort misFault mdeep mcoded mlines nl nc nF np ntr nb mbestCost nso nsi nit nsh nsf nss nrc jr jd mnumber mwhose msize misParted fnrc (by omega) (by omega)) si_X12_363 [0, 1] [] rfl rfl (by decide) rfl (by decide) (by decide) rfl rfl rfl rfl rfl (Nat.le_of_ble_eq_true rfl) ⟨Nat.le_of_ble_eq_true rfl, Nat.le_of_ble_eq_true rfl⟩ ⟨Nat.le_of_ble_eq_true rfl, Nat.le_of_ble_eq_true rfl⟩ dX12_bodyFrom_27 (fun r6438 u6439 H locs hr6438 hP hD hS => ?_)
  obtain ⟨jr16440, ip16441, gtrc6442⟩ := u6439
  try dsimp only at hr6438
  have hP : va_P G.1 vwCl [(h0, .inr (12, [.ref nw, .ref nk, .int mhasKept, .ref nt, .int mtaped, .ref nr, .int mrowMany, .int mroundOf, .int mroundFrom, .int mouts, .ref nm, .int mfromHour, .int mtoHour, .ref ns, .int mfrom, .int mto, .int msort, .int misFault, .int mdeep, .int mcoded, .int mlines, .ref nl, .ref nc, .ref nF, .ref np, .ref ntr, .ref nb, .int mbestCost, .ref nso, .ref nsi, .ref nit, .ref nsh, .ref nsf, .ref nss, .ref nrc, .int (nI jr16440), .int (nI jd), .int mnumber, .int mwhose, .int msize, .int ip16441])), (nrc, .inl (G.2.1, 30, .inl gtrc6442))] H := hP
  have hD : va_D A [(h0, .inr (12, [.ref nw, .ref nk, .int mhasKept, .ref nt, .int mtaped, .ref nr, .int mrowMany, .int mroundOf, .int mroundFrom, .int mouts, .ref nm, .int mfromHour, .int mtoHour, .ref ns, .int mfrom, .int mto, .int msort, .int misFault, .int mdeep, .int mcoded, .int mlines, .ref nl, .ref nc, .ref nF, .ref np, .ref ntr, .ref nb, .int mbestCost, .ref nso, .ref nsi, .ref nit, .ref nsh, .ref nsf, .ref nss, .ref nrc, .int (nI jr16440), .int (nI jd), .int mnumber, .int mwhose, .int msize, .int ip16441])), (nrc, .inl (G.2.1, 30, .inl gtrc6442))] := hD
  obtain ⟨hr6438, w6443⟩ := hr6438
  exact RI (v := r6438) hC hP hD hS [0, 1] (jr16440, ip16441, gtrc6442) rfl rfl (by decide) (⟨trivial, by omega⟩) rfl dX12_bodyFrom_30
set_option maxHeartbeats 4000000 in
set_option maxRecDepth 100000 in
theorem m_from13 (l : Launch) (G : GG) (h0 : Nat) (xx : Int32) (nw : Nat) (nk : Nat) (mhasKept : Int32) (nt : Nat) (mtaped : Int32) (nr : Nat) (mrowMany : Int32) (mroundOf : Int32) (mroundFrom : Int32) (mouts : Int32) (nm : Nat) (mfromHour : Int32) (mtoHour : Int32) (ns : Nat) (mfrom : Int32) (mto : Int32) (msort : Int32) (misFault : Int32) (mdeep : Int32) (mcoded : Int32) (mlines : Int32) (nl : Nat) (nc : Nat) (nF : Nat) (np : Nat) (ntr : Nat) (nb : Nat) (mbestCost : Int32) (nso : Nat) (nsi : Nat) (nit : Nat) (nsh : Nat) (nsf : Nat) (nss : Nat) (nrc : Nat) (jr : Nat) (jd : Nat) (mnumber : Int32) (mwhose : Int32) (msize : Int32) (misParted : Int32) (fnrc : Nat → Int32) (hjr : jr ≤ 30) (hjd : jd < 7) : MI l G yX12_bodyFrom cX12_bodyFrom 5 (some .int) 42 0 0 [.ref h0, .int 1, .int 3, .int xx] [(h0, .inr (12, [.ref nw, .ref nk, .int mhasKept, .ref nt, .int mtaped, .ref nr, .int mrowMany, .int mroundOf, .int mroundFrom, .int mouts, .ref nm, .int mfromHour, .int mtoHour, .ref ns, .int mfrom, .int mto, .int msort, .int misFault, .int mdeep, .int mcoded, .int mlines, .ref nl, .ref nc, .ref nF, .ref np, .ref ntr, .ref nb, .int mbestCost, .ref nso, .ref nsi, .ref nit, .ref nsh, .ref nsf, .ref nss, .ref nrc, .int (nI jr), .int (nI jd), .int mnumber, .int mwhose, .int msize, .int misParted])), (nrc, .inl (G.2.1, 30, .inl fnrc))] (fun (r : Int32) (u : Nat × Int32 × (Nat → Int32)) => (True) ∧ (u.1 ≤ 30)) (fun u : Nat × Int32 × (Nat → Int32) => [(h0, .inr (12, [.ref nw, .ref nk, .int mhasKept, .ref nt, .int mtaped, .ref nr, .int mrowMany, .int mroundOf, .int mroundFrom, .int mouts, .ref nm, .int mfromHour, .int mtoHour, .ref ns, .int mfrom, .int mto, .int msort, .int misFault, .int mdeep, .int mcoded, .int mlines, .ref nl, .ref nc, .ref nF, .ref np, .ref ntr, .ref nb, .int mbestCost, .ref nso, .ref nsi, .ref nit, .ref nsh, .ref nsf, .ref nss, .ref nrc, .int (nI u.1), .int (nI jd), .int mnumber, .int mwhose, .int msize, .int u.2.1])), (nrc, .inl (G.2.1, 30, .inl u.2.2))]) := by
  refine MI.start (by decide +kernel) (Nat.le_of_ble_eq_true rfl) ?_
  intro p e s m below meth c A ls hC hK hP hD hS hA hl
  have hl : lv_has ls 5 [(0, .ref h0), (1, .int 1), (2, .int 3), (3, .int xx)] := hl
  obtain ⟨hx, hb, hr, hml, hB, hown, hlocks, hnm⟩ := id hC
  refine lv_iload_n hx hb dX12_bodyFrom_0 rfl (lv_at hl 1 rfl) ?_
  refine lv_istore (lv' := [(4, .int 1), (0, .ref h0), (1, .int 1), (2, .int 3), (3, .int xx)]) hx hb dX12_bodyFrom_1 hl (by decide) rfl (fun ls hl => ?_)
  refine lv_iload hx hb dX12_bodyFrom_3 (lv_at hl 0 rfl) ?_
  refine lv_iload_n hx hb dX12_bodyFrom_5 rfl (lv_at hl 3 rfl) ?_
  refine pS hC hK hl (m_hasOwn13 l G) si_X12_360 rfl rfl (Nat.le_of_ble_eq_true rfl) ⟨Nat.le_of_ble_eq_true rfl, Nat.le_of_ble_eq_true rfl⟩ ⟨by first | exact Nat.le_of_ble_eq_true rfl | exact Nat.zero_le _, by first | exact Nat.le_of_ble_eq_true rfl | exact Nat.zero_le _⟩ dX12_bodyFrom_6 (fun r6444 hr6444 => ?_)
  obtain rfl := hr6444
  refine lv_if_ne (tgt := 22) hx hb dX12_bodyFrom_9 (by decide) (fun c9 => absurd (by decide) c9) (fun _ => ?_)
  refine lv_iload hx hb dX12_bodyFrom_12 (lv_at hl 0 rfl) ?_
  refine pS hC hK hl (m_above1 l G) si_X12_348 rfl rfl (Nat.le_of_ble_eq_true rfl) ⟨Nat.le_of_ble_eq_true rfl, Nat.le_of_ble_eq_true rfl⟩ ⟨by first | exact Nat.le_of_ble_eq_true rfl | exact Nat.zero_le _, by first | exact Nat.le_of_ble_eq_true rfl | exact Nat.zero_le _⟩ dX12_bodyFrom_14 (fun r6446 hr6446 => ?_)
  obtain rfl := hr6446
  refine lv_istore (lv' := [(4, .int 0), (0, .ref h0), (1, .int 1), (2, .int 3), (3, .int xx)]) hx hb dX12_bodyFrom_17 hl (by decide) rfl (fun ls hl => ?_)
  refine lv_goto (tgt := 3) hx hb dX12_bodyFrom_19 (by decide) ?_
  refine lv_iload hx hb dX12_bodyFrom_3 (lv_at hl 0 rfl) ?_
  refine lv_iload_n hx hb dX12_bodyFrom_5 rfl (lv_at hl 3 rfl) ?_
  refine pS hC hK hl (m_hasOwn03 l G) si_X12_360 rfl rfl (Nat.le_of_ble_eq_true rfl) ⟨Nat.le_of_ble_eq_true rfl, Nat.le_of_ble_eq_true rfl⟩ ⟨by first | exact Nat.le_of_ble_eq_true rfl | exact Nat.zero_le _, by first | exact Nat.le_of_ble_eq_true rfl | exact Nat.zero_le _⟩ dX12_bodyFrom_6 (fun r6448 hr6448 => ?_)
  obtain rfl := hr6448
  refine lv_if_ne (tgt := 22) hx hb dX12_bodyFrom_9 (by decide) (fun _ => ?_) (fun c9 => absurd c9 (by decide))
  refine lv_aload_n hx hb dX12_bodyFrom_22 rfl (lv_at hl 1 rfl) ?_
  refine lv_iload hx hb dX12_bodyFrom_23 (lv_at hl 0 rfl) ?_
  refine lv_iload_n hx hb dX12_bodyFrom_25 rfl (lv_at hl 3 rfl) ?_
  refine lv_iload_n hx hb dX12_bodyFrom_26 rfl (lv_at hl 4 rfl) ?_
  refine iV (wr := []) hC hK hl hP hD hS hA (m_body03 l G h0 xx nw nk mhasKept nt mtaped nr mrowMany mroundOf mroundFrom mouts nm mfromHour mtoHour ns mfrom mto msort misFault mdeep mcoded mlines nl nc nF np ntr nb mbestCost nso nsi nit nsh nsf nss nrc jr jd mnumber mwhose msize misParted fnrc (by omega) (by omega)) si_X12_363 [0, 1] [] rfl rfl (by decide) rfl (by decide) (by decide) rfl rfl rfl rfl rfl (Nat.le_of_ble_eq_true rfl) ⟨Nat.le_of_ble_eq_true rfl, Nat.le_of_ble_eq_true rfl⟩ ⟨Nat.le_of_ble_eq_true rfl, Nat.le_of_ble_eq_true rfl⟩ dX12_bodyFrom_27 (fun r6450 u6451 H locs hr6450 hP hD hS => ?_)
  obtain ⟨jr16452, ip16453, gtrc6454⟩ := u6451
  try dsimp only at hr6450
  have hP : va_P G.1 vwCl [(h0, .inr (12, [.ref nw, .ref nk, .int mhasKept, .ref nt, .int mtaped, .ref nr, .int mrowMany, .int mroundOf, .int mroundFrom, .int mouts, .ref nm, .int mfromHour, .int mtoHour, .ref ns, .int mfrom, .int mto, .int msort, .int misFault, .int mdeep, .int mcoded, .int mlines, .ref nl, .ref nc, .ref nF, .ref np, .ref ntr, .ref nb, .int mbestCost, .ref nso, .ref nsi, .ref nit, .ref nsh, .ref nsf, .ref nss, .ref nrc, .int (nI jr16452), .int (nI jd), .int mnumber, .int mwhose, .int msize, .int ip16453])), (nrc, .inl (G.2.1, 30, .inl gtrc6454))] H := hP
  have hD : va_D A [(h0, .inr (12, [.ref nw, .ref nk, .int mhasKept, .ref nt, .int mtaped, .ref nr, .int mrowMany, .int mroundOf, .int mroundFrom, .int mouts, .ref nm, .int mfromHour, .int mtoHour, .ref ns, .int mfrom, .int mto, .int msort, .int misFault, .int mdeep, .int mcoded, .int mlines, .ref nl, .ref nc, .ref nF, .ref np, .ref ntr, .ref nb, .int mbestCost, .ref nso, .ref nsi, .ref nit, .ref nsh, .ref nsf, .ref nss, .ref nrc, .int (nI jr16452), .int (nI jd), .int mnumber, .int mwhose, .int msize, .int ip16453])), (nrc, .inl (G.2.1, 30, .inl gtrc6454))] := hD
  obtain ⟨hr6450, w6455⟩ := hr6450
  exact RI (v := r6450) hC hP hD hS [0, 1] (jr16452, ip16453, gtrc6454) rfl rfl (by decide) (⟨trivial, by omega⟩) rfl dX12_bodyFrom_30
set_option maxHeartbeats 4000000 in
set_option maxRecDepth 100000 in
theorem m_body33 (l : Launch) (G : GG) (h0 : Nat) (xx : Int32) (nw : Nat) (nk : Nat) (mhasKept : Int32) (nt : Nat) (mtaped : Int32) (nr : Nat) (mrowMany : Int32) (mroundOf : Int32) (mroundFrom : Int32) (mouts : Int32) (nm : Nat) (mfromHour : Int32) (mtoHour : Int32) (ns : Nat) (mfrom : Int32) (mto : Int32) (msort : Int32) (misFault : Int32) (mdeep : Int32) (mcoded : Int32) (mlines : Int32) (nl : Nat) (nc : Nat) (nF : Nat) (np : Nat) (ntr : Nat) (nb : Nat) (mbestCost : Int32) (nso : Nat) (nsi : Nat) (nit : Nat) (nsh : Nat) (nsf : Nat) (nss : Nat) (nrc : Nat) (jr : Nat) (jd : Nat) (mnumber : Int32) (mwhose : Int32) (msize : Int32) (misParted : Int32) (fnrc : Nat → Int32) (hjr : jr ≤ 30) (hjd : jd < 7) : MI l G yX12_body cX12_body 6 (some .int) 43 0 0 [.ref h0, .int 3, .int 3, .int xx] [(h0, .inr (12, [.ref nw, .ref nk, .int mhasKept, .ref nt, .int mtaped, .ref nr, .int mrowMany, .int mroundOf, .int mroundFrom, .int mouts, .ref nm, .int mfromHour, .int mtoHour, .ref ns, .int mfrom, .int mto, .int msort, .int misFault, .int mdeep, .int mcoded, .int mlines, .ref nl, .ref nc, .ref nF, .ref np, .ref ntr, .ref nb, .int mbestCost, .ref nso, .ref nsi, .ref nit, .ref nsh, .ref nsf, .ref nss, .ref nrc, .int (nI jr), .int (nI jd), .int mnumber, .int mwhose, .int msize, .int misParted])), (nrc, .inl (G.2.1, 30, .inl fnrc))] (fun (r : Int32) (u : Nat × Int32 × (Nat → Int32)) => (True) ∧ (u.1 ≤ 30)) (fun u : Nat × Int32 × (Nat → Int32) => [(h0, .inr (12, [.ref nw, .ref nk, .int mhasKept, .ref nt, .int mtaped, .ref nr, .int mrowMany, .int mroundOf, .int mroundFrom, .int mouts, .ref nm, .int mfromHour, .int mtoHour, .ref ns, .int mfrom, .int mto, .int msort, .int misFault, .int mdeep, .int mcoded, .int mlines, .ref nl, .ref nc, .ref nF, .ref np, .ref ntr, .ref nb, .int mbestCost, .ref nso, .ref nsi, .ref nit, .ref nsh, .ref nsf, .ref nss, .ref nrc, .int (nI u.1), .int (nI jd), .int mnumber, .int mwhose, .int msize, .int u.2.1])), (nrc, .inl (G.2.1, 30, .inl u.2.2))]) := by
  refine MI.start (by decide +kernel) (Nat.le_of_ble_eq_true rfl) ?_
  intro p e s m below meth c A ls hC hK hP hD hS hA hl
  have hl : lv_has ls 6 [(0, .ref h0), (1, .int 3), (2, .int 3), (3, .int xx)] := hl
  obtain ⟨hx, hb, hr, hml, hB, hown, hlocks, hnm⟩ := id hC
  refine lv_iconst (v := 4) hx hb dX12_body_0 (by decide) ?_
  refine lv_iload_n hx hb dX12_body_1 rfl (lv_at hl 1 rfl) ?_
  refine lv_imul hx hb dX12_body_2 ?_
  refine eqi (x1 := 12) (by decide) ?_
  refine lv_iload_n hx hb dX12_body_3 rfl (lv_at hl 2 rfl) ?_
  refine lv_iadd hx hb dX12_body_4 ?_
  refine eqi (x1 := 15) (by decide) ?_
  refine lv_tableIn (tgt := 258) hx hb dX12_body_5 (by decide) (by decide) rfl (by decide) ?_
  refine lv_aload_n hx hb dX12_body_258 rfl (lv_at hl 0 rfl) ?_
  refine lv_bipush (v := 41) hx hb dX12_body_259 (by decide) ?_
  refine vV (wr := []) hC hK hl hP hD hS hA (m_began l G h0 41 nw nk mhasKept nt mtaped nr mrowMany mroundOf mroundFrom mouts nm mfromHour mtoHour ns mfrom mto msort misFault mdeep mcoded mlines nl nc nF np ntr nb mbestCost nso nsi nit nsh nsf nss nrc jr (nI jd) mnumber mwhose msize misParted fnrc (by omega)) si_X12_366 [0, 1] [] rfl rfl (by decide) rfl (by decide) (by decide) rfl rfl rfl rfl rfl (Nat.le_of_ble_eq_true rfl) ⟨Nat.le_of_ble_eq_true rfl, Nat.le_of_ble_eq_true rfl⟩ ⟨Nat.le_of_ble_eq_true rfl, Nat.le_of_ble_eq_true rfl⟩ dX12_body_261 (fun u6457 H locs hr6456 hP hD hS => ?_)
  obtain ⟨jr16458, gtrc6459⟩ := u6457
  try dsimp only at hr6456
  have hP : va_P G.1 vwCl [(h0, .inr (12, [.ref nw, .ref nk, .int mhasKept, .ref nt, .int mtaped, .ref nr, .int mrowMany, .int mroundOf, .int mroundFrom, .int mouts, .ref nm, .int mfromHour, .int mtoHour, .ref ns, .int mfrom, .int mto, .int msort, .int misFault, .int mdeep, .int mcoded, .int mlines, .ref nl, .ref nc, .ref nF, .ref np, .ref ntr, .ref nb, .int mbestCost, .ref nso, .ref nsi, .ref nit, .ref nsh, .ref nsf, .ref nss, .ref nrc, .int (nI jr16458), .int (nI jd), .int mnumber, .int mwhose, .int msize, .int misParted])), (nrc, .inl (G.2.1, 30, .inl gtrc6459))] H := hP
  have hD : va_D A [(h0, .inr (12, [.ref nw, .ref nk, .int mhasKept, .ref nt, .int mtaped, .ref nr, .int mrowMany, .int mroundOf, .int mroundFrom, .int mouts, .ref nm, .int mfromHour, .int mtoHour, .ref ns, .int mfrom, .int mto, .int msort, .int misFault, .int mdeep, .int mcoded, .int mlines, .ref nl, .ref nc, .ref nF, .ref np, .ref ntr, .ref nb, .int mbestCost, .ref nso, .ref nsi, .ref nit, .ref nsh, .ref nsf, .ref nss, .ref nrc, .int (nI jr16458), .int (nI jd), .int mnumber, .int mwhose, .int msize, .int misParted])), (nrc, .inl (G.2.1, 30, .inl gtrc6459))] := hD
  have w6460 := hr6456
  refine lv_aload_n hx hb dX12_body_264 rfl (lv_at hl 0 rfl) ?_
  refine lv_iconst (v := 1) hx hb dX12_body_265 (by decide) ?_
  refine lv_iconst (v := 3) hx hb dX12_body_266 (by decide) ?_
  refine lv_iload_n hx hb dX12_body_267 rfl (lv_at hl 3 rfl) ?_
  refine lv_iconst (v := 2) hx hb dX12_body_268 (by decide) ?_
  refine lv_iadd hx hb dX12_body_269 ?_
  refine iV (wr := []) hC hK hl hP hD hS hA (m_from13 l G h0 (xx + 2) nw nk mhasKept nt mtaped nr mrowMany mroundOf mroundFrom mouts nm mfromHour mtoHour ns mfrom mto msort misFault mdeep mcoded mlines nl nc nF np ntr nb mbestCost nso nsi nit nsh nsf nss nrc jr16458 jd mnumber mwhose msize misParted gtrc6459 (by omega) (by omega)) si_X12_357 [0, 1] [] rfl rfl (by decide) rfl (by decide) (by decide) rfl rfl rfl rfl rfl (Nat.le_of_ble_eq_true rfl) ⟨Nat.le_of_ble_eq_true rfl, Nat.le_of_ble_eq_true rfl⟩ ⟨Nat.le_of_ble_eq_true rfl, Nat.le_of_ble_eq_true rfl⟩ dX12_body_270 (fun r6461 u6462 H locs hr6461 hP hD hS => ?_)
  obtain ⟨jr16463, ip16464, gtrc6465⟩ := u6462
  try dsimp only at hr6461
  have hP : va_P G.1 vwCl [(h0, .inr (12, [.ref nw, .ref nk, .int mhasKept, .ref nt, .int mtaped, .ref nr, .int mrowMany, .int mroundOf, .int mroundFrom, .int mouts, .ref nm, .int mfromHour, .int mtoHour, .ref ns, .int mfrom, .int mto, .int msort, .int misFault, .int mdeep, .int mcoded, .int mlines, .ref nl, .ref nc, .ref nF, .ref np, .ref ntr, .ref nb, .int mbestCost, .ref nso, .ref nsi, .ref nit, .ref nsh, .ref nsf, .ref nss, .ref nrc, .int (nI jr16463), .int (nI jd), .int mnumber, .int mwhose, .int msize, .int ip16464])), (nrc, .inl (G.2.1, 30, .inl gtrc6465))] H := hP
  have hD : va_D A [(h0, .inr (12, [.ref nw, .ref nk, .int mhasKept, .ref nt, .int mtaped, .ref nr, .int mrowMany, .int mroundOf, .int mroundFrom, .int mouts, .ref nm, .int mfromHour, .int mtoHour, .ref ns, .int mfrom, .int mto, .int msort, .int misFault, .int mdeep, .int mcoded, .int mlines, .ref nl, .ref nc, .ref nF, .ref np, .ref ntr, .ref nb, .int mbestCost, .ref nso, .ref nsi, .ref nit, .ref nsh, .ref nsf, .ref nss, .ref nrc, .int (nI jr16463), .int (nI jd), .int mnumber, .int mwhose, .int msize, .int ip16464])), (nrc, .inl (G.2.1, 30, .inl gtrc6465))] := hD
  obtain ⟨hr6461, w6466⟩ := hr6461
  exact RI (v := r6461) hC hP hD hS [0, 1] (jr16463, ip16464, gtrc6465) rfl rfl (by decide) (⟨trivial, by omega⟩) rfl dX12_body_273
set_option maxHeartbeats 4000000 in
set_option maxRecDepth 100000 in
theorem m_from33 (l : Launch) (G : GG) (h0 : Nat) (xx : Int32) (nw : Nat) (nk : Nat) (mhasKept : Int32) (nt : Nat) (mtaped : Int32) (nr : Nat) (mrowMany : Int32) (mroundOf : Int32) (mroundFrom : Int32) (mouts : Int32) (nm : Nat) (mfromHour : Int32) (mtoHour : Int32) (ns : Nat) (mfrom : Int32) (mto : Int32) (msort : Int32) (misFault : Int32) (mdeep : Int32) (mcoded : Int32) (mlines : Int32) (nl : Nat) (nc : Nat) (nF : Nat) (np : Nat) (ntr : Nat) (nb : Nat) (mbestCost : Int32) (nso : Nat) (nsi : Nat) (nit : Nat) (nsh : Nat) (nsf : Nat) (nss : Nat) (nrc : Nat) (jr : Nat) (jd : Nat) (mnumber : Int32) (mwhose : Int32) (msize : Int32) (misParted : Int32) (fnrc : Nat → Int32) (hjr : jr ≤ 30) (hjd : jd < 7) : MI l G yX12_bodyFrom cX12_bodyFrom 5 (some .int) 44 0 0 [.ref h0, .int 3, .int 3, .int xx] [(h0, .inr (12, [.ref nw, .ref nk, .int mhasKept, .ref nt, .int mtaped, .ref nr, .int mrowMany, .int mroundOf, .int mroundFrom, .int mouts, .ref nm, .int mfromHour, .int mtoHour, .ref ns, .int mfrom, .int mto, .int msort, .int misFault, .int mdeep, .int mcoded, .int mlines, .ref nl, .ref nc, .ref nF, .ref np, .ref ntr, .ref nb, .int mbestCost, .ref nso, .ref nsi, .ref nit, .ref nsh, .ref nsf, .ref nss, .ref nrc, .int (nI jr), .int (nI jd), .int mnumber, .int mwhose, .int msize, .int misParted])), (nrc, .inl (G.2.1, 30, .inl fnrc))] (fun (r : Int32) (u : Nat × Int32 × (Nat → Int32)) => (True) ∧ (u.1 ≤ 30)) (fun u : Nat × Int32 × (Nat → Int32) => [(h0, .inr (12, [.ref nw, .ref nk, .int mhasKept, .ref nt, .int mtaped, .ref nr, .int mrowMany, .int mroundOf, .int mroundFrom, .int mouts, .ref nm, .int mfromHour, .int mtoHour, .ref ns, .int mfrom, .int mto, .int msort, .int misFault, .int mdeep, .int mcoded, .int mlines, .ref nl, .ref nc, .ref nF, .ref np, .ref ntr, .ref nb, .int mbestCost, .ref nso, .ref nsi, .ref nit, .ref nsh, .ref nsf, .ref nss, .ref nrc, .int (nI u.1), .int (nI jd), .int mnumber, .int mwhose, .int msize, .int u.2.1])), (nrc, .inl (G.2.1, 30, .inl u.2.2))]) := by
  refine MI.start (by decide +kernel) (Nat.le_of_ble_eq_true rfl) ?_
  intro p e s m below meth c A ls hC hK hP hD hS hA hl
  have hl : lv_has ls 5 [(0, .ref h0), (1, .int 3), (2, .int 3), (3, .int xx)] := hl
  obtain ⟨hx, hb, hr, hml, hB, hown, hlocks, hnm⟩ := id hC
  refine lv_iload_n hx hb dX12_bodyFrom_0 rfl (lv_at hl 1 rfl) ?_
  refine lv_istore (lv' := [(4, .int 3), (0, .ref h0), (1, .int 3), (2, .int 3), (3, .int xx)]) hx hb dX12_bodyFrom_1 hl (by decide) rfl (fun ls hl => ?_)
  refine lv_iload hx hb dX12_bodyFrom_3 (lv_at hl 0 rfl) ?_
  refine lv_iload_n hx hb dX12_bodyFrom_5 rfl (lv_at hl 3 rfl) ?_
  refine pS hC hK hl (m_hasOwn33 l G) si_X12_360 rfl rfl (Nat.le_of_ble_eq_true rfl) ⟨Nat.le_of_ble_eq_true rfl, Nat.le_of_ble_eq_true rfl⟩ ⟨by first | exact Nat.le_of_ble_eq_true rfl | exact Nat.zero_le _, by first | exact Nat.le_of_ble_eq_true rfl | exact Nat.zero_le _⟩ dX12_bodyFrom_6 (fun r6467 hr6467 => ?_)
  obtain rfl := hr6467
  refine lv_if_ne (tgt := 22) hx hb dX12_bodyFrom_9 (by decide) (fun _ => ?_) (fun c9 => absurd c9 (by decide))
  refine lv_aload_n hx hb dX12_bodyFrom_22 rfl (lv_at hl 1 rfl) ?_
  refine lv_iload hx hb dX12_bodyFrom_23 (lv_at hl 0 rfl) ?_
  refine lv_iload_n hx hb dX12_bodyFrom_25 rfl (lv_at hl 3 rfl) ?_
  refine lv_iload_n hx hb dX12_bodyFrom_26 rfl (lv_at hl 4 rfl) ?_
  refine iV (wr := []) hC hK hl hP hD hS hA (m_body33 l G h0 xx nw nk mhasKept nt mtaped nr mrowMany mroundOf mroundFrom mouts nm mfromHour mtoHour ns mfrom mto msort misFault mdeep mcoded mlines nl nc nF np ntr nb mbestCost nso nsi nit nsh nsf nss nrc jr jd mnumber mwhose msize misParted fnrc (by omega) (by omega)) si_X12_363 [0, 1] [] rfl rfl (by decide) rfl (by decide) (by decide) rfl rfl rfl rfl rfl (Nat.le_of_ble_eq_true rfl) ⟨Nat.le_of_ble_eq_true rfl, Nat.le_of_ble_eq_true rfl⟩ ⟨Nat.le_of_ble_eq_true rfl, Nat.le_of_ble_eq_true rfl⟩ dX12_bodyFrom_27 (fun r6469 u6470 H locs hr6469 hP hD hS => ?_)
  obtain ⟨jr16471, ip16472, gtrc6473⟩ := u6470
  try dsimp only at hr6469
  have hP : va_P G.1 vwCl [(h0, .inr (12, [.ref nw, .ref nk, .int mhasKept, .ref nt, .int mtaped, .ref nr, .int mrowMany, .int mroundOf, .int mroundFrom, .int mouts, .ref nm, .int mfromHour, .int mtoHour, .ref ns, .int mfrom, .int mto, .int msort, .int misFault, .int mdeep, .int mcoded, .int mlines, .ref nl, .ref nc, .ref nF, .ref np, .ref ntr, .ref nb, .int mbestCost, .ref nso, .ref nsi, .ref nit, .ref nsh, .ref nsf, .ref nss, .ref nrc, .int (nI jr16471), .int (nI jd), .int mnumber, .int mwhose, .int msize, .int ip16472])), (nrc, .inl (G.2.1, 30, .inl gtrc6473))] H := hP
  have hD : va_D A [(h0, .inr (12, [.ref nw, .ref nk, .int mhasKept, .ref nt, .int mtaped, .ref nr, .int mrowMany, .int mroundOf, .int mroundFrom, .int mouts, .ref nm, .int mfromHour, .int mtoHour, .ref ns, .int mfrom, .int mto, .int msort, .int misFault, .int mdeep, .int mcoded, .int mlines, .ref nl, .ref nc, .ref nF, .ref np, .ref ntr, .ref nb, .int mbestCost, .ref nso, .ref nsi, .ref nit, .ref nsh, .ref nsf, .ref nss, .ref nrc, .int (nI jr16471), .int (nI jd), .int mnumber, .int mwhose, .int msize, .int ip16472])), (nrc, .inl (G.2.1, 30, .inl gtrc6473))] := hD
  obtain ⟨hr6469, w6474⟩ := hr6469
  exact RI (v := r6469) hC hP hD hS [0, 1] (jr16471, ip16472, gtrc6473) rfl rfl (by decide) (⟨trivial, by omega⟩) rfl dX12_bodyFrom_30
set_option maxHeartbeats 4000000 in
set_option maxRecDepth 100000 in
theorem m_body63 (l : Launch) (G : GG) (h0 : Nat) (xx : Int32) (nw : Nat) (nk : Nat) (mhasKept : Int32) (nt : Nat) (mtaped : Int32) (nr : Nat) (mrowMany : Int32) (mroundOf : Int32) (mroundFrom : Int32) (mouts : Int32) (nm : Nat) (mfromHour : Int32) (mtoHour : Int32) (ns : Nat) (mfrom : Int32) (mto : Int32) (msort : Int32) (misFault : Int32) (mdeep : Int32) (mcoded : Int32) (mlines : Int32) (nl : Nat) (nc : Nat) (nF : Nat) (np : Nat) (ntr : Nat) (nb : Nat) (mbestCost : Int32) (nso : Nat) (nsi : Nat) (nit : Nat) (nsh : Nat) (nsf : Nat) (nss : Nat) (nrc : Nat) (jr : Nat) (jd : Nat) (mnumber : Int32) (mwhose : Int32) (msize : Int32) (misParted : Int32) (fnrc : Nat → Int32) (hjr : jr ≤ 30) (hjd : jd < 7) : MI l G yX12_body cX12_body 6 (some .int) 45 0 0 [.ref h0, .int 6, .int 3, .int xx] [(h0, .inr (12, [.ref nw, .ref nk, .int mhasKept, .ref nt, .int mtaped, .ref nr, .int mrowMany, .int mroundOf, .int mroundFrom, .int mouts, .ref nm, .int mfromHour, .int mtoHour, .ref ns, .int mfrom, .int mto, .int msort, .int misFault, .int mdeep, .int mcoded, .int mlines, .ref nl, .ref nc, .ref nF, .ref np, .ref ntr, .ref nb, .int mbestCost, .ref nso, .ref nsi, .ref nit, .ref nsh, .ref nsf, .ref nss, .ref nrc, .int (nI jr), .int (nI jd), .int mnumber, .int mwhose, .int msize, .int misParted])), (nrc, .inl (G.2.1, 30, .inl fnrc))] (fun (r : Int32) (u : Nat × Int32 × (Nat → Int32)) => (True) ∧ (u.1 ≤ 30)) (fun u : Nat × Int32 × (Nat → Int32) => [(h0, .inr (12, [.ref nw, .ref nk, .int mhasKept, .ref nt, .int mtaped, .ref nr, .int mrowMany, .int mroundOf, .int mroundFrom, .int mouts, .ref nm, .int mfromHour, .int mtoHour, .ref ns, .int mfrom, .int mto, .int msort, .int misFault, .int mdeep, .int mcoded, .int mlines, .ref nl, .ref nc, .ref nF, .ref np, .ref ntr, .ref nb, .int mbestCost, .ref nso, .ref nsi, .ref nit, .ref nsh, .ref nsf, .ref nss, .ref nrc, .int (nI u.1), .int (nI jd), .int mnumber, .int mwhose, .int msize, .int u.2.1])), (nrc, .inl (G.2.1, 30, .inl u.2.2))]) := by
  refine MI.start (by decide +kernel) (Nat.le_of_ble_eq_true rfl) ?_
  intro p e s m below meth c A ls hC hK hP hD hS hA hl
  have hl : lv_has ls 6 [(0, .ref h0), (1, .int 6), (2, .int 3), (3, .int xx)] := hl
  obtain ⟨hx, hb, hr, hml, hB, hown, hlocks, hnm⟩ := id hC
  refine lv_iconst (v := 4) hx hb dX12_body_0 (by decide) ?_
  refine lv_iload_n hx hb dX12_body_1 rfl (lv_at hl 1 rfl) ?_
  refine lv_imul hx hb dX12_body_2 ?_
  refine eqi (x1 := 24) (by decide) ?_
  refine lv_iload_n hx hb dX12_body_3 rfl (lv_at hl 2 rfl) ?_
  refine lv_iadd hx hb dX12_body_4 ?_
  refine eqi (x1 := 27) (by decide) ?_
  refine lv_tableOut (tgt := 353) hx hb dX12_body_5 (by decide) (by decide) ?_
  refine lv_aload_n hx hb dX12_body_353 rfl (lv_at hl 0 rfl) ?_
  refine lv_bipush (v := 70) hx hb dX12_body_354 (by decide) ?_
  refine vV (wr := []) hC hK hl hP hD hS hA (m_began l G h0 70 nw nk mhasKept nt mtaped nr mrowMany mroundOf mroundFrom mouts nm mfromHour mtoHour ns mfrom mto msort misFault mdeep mcoded mlines nl nc nF np ntr nb mbestCost nso nsi nit nsh nsf nss nrc jr (nI jd) mnumber mwhose msize misParted fnrc (by omega)) si_X12_366 [0, 1] [] rfl rfl (by decide) rfl (by decide) (by decide) rfl rfl rfl rfl rfl (Nat.le_of_ble_eq_true rfl) ⟨Nat.le_of_ble_eq_true rfl, Nat.le_of_ble_eq_true rfl⟩ ⟨Nat.le_of_ble_eq_true rfl, Nat.le_of_ble_eq_true rfl⟩ dX12_body_356 (fun u6476 H locs hr6475 hP hD hS => ?_)
  obtain ⟨jr16477, gtrc6478⟩ := u6476
  try dsimp only at hr6475
  have hP : va_P G.1 vwCl [(h0, .inr (12, [.ref nw, .ref nk, .int mhasKept, .ref nt, .int mtaped, .ref nr, .int mrowMany, .int mroundOf, .int mroundFrom, .int mouts, .ref nm, .int mfromHour, .int mtoHour, .ref ns, .int mfrom, .int mto, .int msort, .int misFault, .int mdeep, .int mcoded, .int mlines, .ref nl, .ref nc, .ref nF, .ref np, .ref ntr, .ref nb, .int mbestCost, .ref nso, .ref nsi, .ref nit, .ref nsh, .ref nsf, .ref nss, .ref nrc, .int (nI jr16477), .int (nI jd), .int mnumber, .int mwhose, .int msize, .int misParted])), (nrc, .inl (G.2.1, 30, .inl gtrc6478))] H := hP
  have hD : va_D A [(h0, .inr (12, [.ref nw, .ref nk, .int mhasKept, .ref nt, .int mtaped, .ref nr, .int mrowMany, .int mroundOf, .int mroundFrom, .int mouts, .ref nm, .int mfromHour, .int mtoHour, .ref ns, .int mfrom, .int mto, .int msort, .int misFault, .int mdeep, .int mcoded, .int mlines, .ref nl, .ref nc, .ref nF, .ref np, .ref ntr, .ref nb, .int mbestCost, .ref nso, .ref nsi, .ref nit, .ref nsh, .ref nsf, .ref nss, .ref nrc, .int (nI jr16477), .int (nI jd), .int mnumber, .int mwhose, .int msize, .int misParted])), (nrc, .inl (G.2.1, 30, .inl gtrc6478))] := hD
  have w6479 := hr6475
  refine lv_aload_n hx hb dX12_body_359 rfl (lv_at hl 0 rfl) ?_
  refine lv_iconst (v := 0) hx hb dX12_body_360 (by decide) ?_
  refine lv_iconst (v := 3) hx hb dX12_body_361 (by decide) ?_
  refine lv_iload_n hx hb dX12_body_362 rfl (lv_at hl 3 rfl) ?_
  refine iV (wr := []) hC hK hl hP hD hS hA (m_from03 l G h0 xx nw nk mhasKept nt mtaped nr mrowMany mroundOf mroundFrom mouts nm mfromHour mtoHour ns mfrom mto msort misFault mdeep mcoded mlines nl nc nF np ntr nb mbestCost nso nsi nit nsh nsf nss nrc jr16477 jd mnumber mwhose msize misParted gtrc6478 (by omega) (by omega)) si_X12_357 [0, 1] [] rfl rfl (by decide) rfl (by decide) (by decide) rfl rfl rfl rfl rfl (Nat.le_of_ble_eq_true rfl) ⟨Nat.le_of_ble_eq_true rfl, Nat.le_of_ble_eq_true rfl⟩ ⟨Nat.le_of_ble_eq_true rfl, Nat.le_of_ble_eq_true rfl⟩ dX12_body_363 (fun r6480 u6481 H locs hr6480 hP hD hS => ?_)
  obtain ⟨jr16482, ip16483, gtrc6484⟩ := u6481
  try dsimp only at hr6480
  have hP : va_P G.1 vwCl [(h0, .inr (12, [.ref nw, .ref nk, .int mhasKept, .ref nt, .int mtaped, .ref nr, .int mrowMany, .int mroundOf, .int mroundFrom, .int mouts, .ref nm, .int mfromHour, .int mtoHour, .ref ns, .int mfrom, .int mto, .int msort, .int misFault, .int mdeep, .int mcoded, .int mlines, .ref nl, .ref nc, .ref nF, .ref np, .ref ntr, .ref nb, .int mbestCost, .ref nso, .ref nsi, .ref nit, .ref nsh, .ref nsf, .ref nss, .ref nrc, .int (nI jr16482), .int (nI jd), .int mnumber, .int mwhose, .int msize, .int ip16483])), (nrc, .inl (G.2.1, 30, .inl gtrc6484))] H := hP
  have hD : va_D A [(h0, .inr (12, [.ref nw, .ref nk, .int mhasKept, .ref nt, .int mtaped, .ref nr, .int mrowMany, .int mroundOf, .int mroundFrom, .int mouts, .ref nm, .int mfromHour, .int mtoHour, .ref ns, .int mfrom, .int mto, .int msort, .int misFault, .int mdeep, .int mcoded, .int mlines, .ref nl, .ref nc, .ref nF, .ref np, .ref ntr, .ref nb, .int mbestCost, .ref nso, .ref nsi, .ref nit, .ref nsh, .ref nsf, .ref nss, .ref nrc, .int (nI jr16482), .int (nI jd), .int mnumber, .int mwhose, .int msize, .int ip16483])), (nrc, .inl (G.2.1, 30, .inl gtrc6484))] := hD
  obtain ⟨hr6480, w6485⟩ := hr6480
  refine lv_istore (lv' := [(5, .int r6480), (0, .ref h0), (1, .int 6), (2, .int 3), (3, .int xx)]) hx hb dX12_body_366 hl (by decide) rfl (fun ls hl => ?_)
  refine lv_aload_n hx hb dX12_body_368 rfl (lv_at hl 1 rfl) ?_
  refine gf_X12_380 hC rfl hK hP 0 rfl rfl dX12_body_369 ?_
  refine lv_if_eq (tgt := 379) hx hb dX12_body_372 (by decide) (fun c_372_6486 => ?_) (fun c_372_6486 => ?_)
  · refine lv_iload hx hb dX12_body_379 (lv_at hl 0 rfl) ?_
    refine lv_aload_n hx hb dX12_body_381 rfl (lv_at hl 1 rfl) ?_
    refine lv_iconst (v := 0) hx hb dX12_body_382 (by decide) ?_
    refine lv_aload_n hx hb dX12_body_383 rfl (lv_at hl 1 rfl) ?_
    refine gf_X12_378 hC rfl hK hP 0 rfl rfl dX12_body_384 ?_
    refine iV (wr := []) hC hK hl hP hD hS hA (m_dealt0 l G h0 mnumber nw nk mhasKept nt mtaped nr mrowMany mroundOf mroundFrom mouts nm mfromHour mtoHour ns mfrom mto msort misFault mdeep mcoded mlines nl nc nF np ntr nb mbestCost nso nsi nit nsh nsf nss nrc jr16482 jd mnumber mwhose msize ip16483 gtrc6484 (by omega) (by omega)) si_X12_372 [0, 1] [] rfl rfl (by decide) rfl (by decide) (by decide) rfl rfl rfl rfl rfl (Nat.le_of_ble_eq_true rfl) ⟨Nat.le_of_ble_eq_true rfl, Nat.le_of_ble_eq_true rfl⟩ ⟨Nat.le_of_ble_eq_true rfl, Nat.le_of_ble_eq_true rfl⟩ dX12_body_387 (fun r6487 u6488 H locs hr6487 hP hD hS => ?_)
    obtain ⟨jr16489, ip16490, gtrc6491⟩ := u6488
    try dsimp only at hr6487
    have hP : va_P G.1 vwCl [(h0, .inr (12, [.ref nw, .ref nk, .int mhasKept, .ref nt, .int mtaped, .ref nr, .int mrowMany, .int mroundOf, .int mroundFrom, .int mouts, .ref nm, .int mfromHour, .int mtoHour, .ref ns, .int mfrom, .int mto, .int msort, .int misFault, .int mdeep, .int mcoded, .int mlines, .ref nl, .ref nc, .ref nF, .ref np, .ref ntr, .ref nb, .int mbestCost, .ref nso, .ref nsi, .ref nit, .ref nsh, .ref nsf, .ref nss, .ref nrc, .int (nI jr16489), .int (nI jd), .int mnumber, .int mwhose, .int msize, .int ip16490])), (nrc, .inl (G.2.1, 30, .inl gtrc6491))] H := hP
    have hD : va_D A [(h0, .inr (12, [.ref nw, .ref nk, .int mhasKept, .ref nt, .int mtaped, .ref nr, .int mrowMany, .int mroundOf, .int mroundFrom, .int mouts, .ref nm, .int mfromHour, .int mtoHour, .ref ns, .int mfrom, .int mto, .int msort, .int misFault, .int mdeep, .int mcoded, .int mlines, .ref nl, .ref nc, .ref nF, .ref np, .ref ntr, .ref nb, .int mbestCost, .ref nso, .ref nsi, .ref nit, .ref nsh, .ref nsf, .ref nss, .ref nrc, .int (nI jr16489), .int (nI jd), .int mnumber, .int mwhose, .int msize, .int ip16490])), (nrc, .inl (G.2.1, 30, .inl gtrc6491))] := hD
    obtain ⟨hr6487, w6492⟩ := hr6487
    refine lv_isub hx hb dX12_body_390 ?_
    exact RI (v := r6480 - r6487) hC hP hD hS [0, 1] (jr16489, ip16490, gtrc6491) rfl rfl (by decide) (⟨trivial, by omega⟩) rfl dX12_body_391
  · refine lv_iconst (v := 0) hx hb dX12_body_375 (by decide) ?_
    refine lv_goto (tgt := 391) hx hb dX12_body_376 (by decide) ?_
    exact RI (v := 0) hC hP hD hS [0, 1] (jr16482, ip16483, gtrc6484) rfl rfl (by decide) (⟨trivial, by omega⟩) rfl dX12_body_391
set_option maxHeartbeats 4000000 in
set_option maxRecDepth 100000 in
theorem m_from63 (l : Launch) (G : GG) (h0 : Nat) (xx : Int32) (nw : Nat) (nk : Nat) (mhasKept : Int32) (nt : Nat) (mtaped : Int32) (nr : Nat) (mrowMany : Int32) (mroundOf : Int32) (mroundFrom : Int32) (mouts : Int32) (nm : Nat) (mfromHour : Int32) (mtoHour : Int32) (ns : Nat) (mfrom : Int32) (mto : Int32) (msort : Int32) (misFault : Int32) (mdeep : Int32) (mcoded : Int32) (mlines : Int32) (nl : Nat) (nc : Nat) (nF : Nat) (np : Nat) (ntr : Nat) (nb : Nat) (mbestCost : Int32) (nso : Nat) (nsi : Nat) (nit : Nat) (nsh : Nat) (nsf : Nat) (nss : Nat) (nrc : Nat) (jr : Nat) (jd : Nat) (mnumber : Int32) (mwhose : Int32) (msize : Int32) (misParted : Int32) (fnrc : Nat → Int32) (hjr : jr ≤ 30) (hjd : jd < 7) : MI l G yX12_bodyFrom cX12_bodyFrom 5 (some .int) 46 0 0 [.ref h0, .int 6, .int 3, .int xx] [(h0, .inr (12, [.ref nw, .ref nk, .int mhasKept, .ref nt, .int mtaped, .ref nr, .int mrowMany, .int mroundOf, .int mroundFrom, .int mouts, .ref nm, .int mfromHour, .int mtoHour, .ref ns, .int mfrom, .int mto, .int msort, .int misFault, .int mdeep, .int mcoded, .int mlines, .ref nl, .ref nc, .ref nF, .ref np, .ref ntr, .ref nb, .int mbestCost, .ref nso, .ref nsi, .ref nit, .ref nsh, .ref nsf, .ref nss, .ref nrc, .int (nI jr), .int (nI jd), .int mnumber, .int mwhose, .int msize, .int misParted])), (nrc, .inl (G.2.1, 30, .inl fnrc))] (fun (r : Int32) (u : Nat × Int32 × (Nat → Int32)) => (True) ∧ (u.1 ≤ 30)) (fun u : Nat × Int32 × (Nat → Int32) => [(h0, .inr (12, [.ref nw, .ref nk, .int mhasKept, .ref nt, .int mtaped, .ref nr, .int mrowMany, .int mroundOf, .int mroundFrom, .int mouts, .ref nm, .int mfromHour, .int mtoHour, .ref ns, .int mfrom, .int mto, .int msort, .int misFault, .int mdeep, .int mcoded, .int mlines, .ref nl, .ref nc, .ref nF, .ref np, .ref ntr, .ref nb, .int mbestCost, .ref nso, .ref nsi, .ref nit, .ref nsh, .ref nsf, .ref nss, .ref nrc, .int (nI u.1), .int (nI jd), .int mnumber, .int mwhose, .int msize, .int u.2.1])), (nrc, .inl (G.2.1, 30, .inl u.2.2))]) := by
  refine MI.start (by decide +kernel) (Nat.le_of_ble_eq_true rfl) ?_
  intro p e s m below meth c A ls hC hK hP hD hS hA hl
  have hl : lv_has ls 5 [(0, .ref h0), (1, .int 6), (2, .int 3), (3, .int xx)] := hl
  obtain ⟨hx, hb, hr, hml, hB, hown, hlocks, hnm⟩ := id hC
  refine lv_iload_n hx hb dX12_bodyFrom_0 rfl (lv_at hl 1 rfl) ?_
  refine lv_istore (lv' := [(4, .int 6), (0, .ref h0), (1, .int 6), (2, .int 3), (3, .int xx)]) hx hb dX12_bodyFrom_1 hl (by decide) rfl (fun ls hl => ?_)
  refine lv_iload hx hb dX12_bodyFrom_3 (lv_at hl 0 rfl) ?_
  refine lv_iload_n hx hb dX12_bodyFrom_5 rfl (lv_at hl 3 rfl) ?_
  refine pS hC hK hl (m_hasOwn63 l G) si_X12_360 rfl rfl (Nat.le_of_ble_eq_true rfl) ⟨Nat.le_of_ble_eq_true rfl, Nat.le_of_ble_eq_true rfl⟩ ⟨by first | exact Nat.le_of_ble_eq_true rfl | exact Nat.zero_le _, by first | exact Nat.le_of_ble_eq_true rfl | exact Nat.zero_le _⟩ dX12_bodyFrom_6 (fun r6493 hr6493 => ?_)
  obtain rfl := hr6493
  refine lv_if_ne (tgt := 22) hx hb dX12_bodyFrom_9 (by decide) (fun _ => ?_) (fun c9 => absurd c9 (by decide))
  refine lv_aload_n hx hb dX12_bodyFrom_22 rfl (lv_at hl 1 rfl) ?_
  refine lv_iload hx hb dX12_bodyFrom_23 (lv_at hl 0 rfl) ?_
  refine lv_iload_n hx hb dX12_bodyFrom_25 rfl (lv_at hl 3 rfl) ?_
  refine lv_iload_n hx hb dX12_bodyFrom_26 rfl (lv_at hl 4 rfl) ?_
  refine iV (wr := []) hC hK hl hP hD hS hA (m_body63 l G h0 xx nw nk mhasKept nt mtaped nr mrowMany mroundOf mroundFrom mouts nm mfromHour mtoHour ns mfrom mto msort misFault mdeep mcoded mlines nl nc nF np ntr nb mbestCost nso nsi nit nsh nsf nss nrc jr jd mnumber mwhose msize misParted fnrc (by omega) (by omega)) si_X12_363 [0, 1] [] rfl rfl (by decide) rfl (by decide) (by decide) rfl rfl rfl rfl rfl (Nat.le_of_ble_eq_true rfl) ⟨Nat.le_of_ble_eq_true rfl, Nat.le_of_ble_eq_true rfl⟩ ⟨Nat.le_of_ble_eq_true rfl, Nat.le_of_ble_eq_true rfl⟩ dX12_bodyFrom_27 (fun r6495 u6496 H locs hr6495 hP hD hS => ?_)
  obtain ⟨jr16497, ip16498, gtrc6499⟩ := u6496
  try dsimp only at hr6495
  have hP : va_P G.1 vwCl [(h0, .inr (12, [.ref nw, .ref nk, .int mhasKept, .ref nt, .int mtaped, .ref nr, .int mrowMany, .int mroundOf, .int mroundFrom, .int mouts, .ref nm, .int mfromHour, .int mtoHour, .ref ns, .int mfrom, .int mto, .int msort, .int misFault, .int mdeep, .int mcoded, .int mlines, .ref nl, .ref nc, .ref nF, .ref np, .ref ntr, .ref nb, .int mbestCost, .ref nso, .ref nsi, .ref nit, .ref nsh, .ref nsf, .ref nss, .ref nrc, .int (nI jr16497), .int (nI jd), .int mnumber, .int mwhose, .int msize, .int ip16498])), (nrc, .inl (G.2.1, 30, .inl gtrc6499))] H := hP
  have hD : va_D A [(h0, .inr (12, [.ref nw, .ref nk, .int mhasKept, .ref nt, .int mtaped, .ref nr, .int mrowMany, .int mroundOf, .int mroundFrom, .int mouts, .ref nm, .int mfromHour, .int mtoHour, .ref ns, .int mfrom, .int mto, .int msort, .int misFault, .int mdeep, .int mcoded, .int mlines, .ref nl, .ref nc, .ref nF, .ref np, .ref ntr, .ref nb, .int mbestCost, .ref nso, .ref nsi, .ref nit, .ref nsh, .ref nsf, .ref nss, .ref nrc, .int (nI jr16497), .int (nI jd), .int mnumber, .int mwhose, .int msize, .int ip16498])), (nrc, .inl (G.2.1, 30, .inl gtrc6499))] := hD
  obtain ⟨hr6495, w6500⟩ := hr6495
  exact RI (v := r6495) hC hP hD hS [0, 1] (jr16497, ip16498, gtrc6499) rfl rfl (by decide) (⟨trivial, by omega⟩) rfl dX12_bodyFrom_30
set_option maxHeartbeats 4000000 in
set_option maxRecDepth 100000 in
theorem m_from23 (l : Launch) (G : GG) (h0 : Nat) (xx : Int32) (nw : Nat) (nk : Nat) (mhasKept : Int32) (nt : Nat) (mtaped : Int32) (nr : Nat) (mrowMany : Int32) (mroundOf : Int32) (mroundFrom : Int32) (mouts : Int32) (nm : Nat) (mfromHour : Int32) (mtoHour : Int32) (ns : Nat) (mfrom : Int32) (mto : Int32) (msort : Int32) (misFault : Int32) (mdeep : Int32) (mcoded : Int32) (mlines : Int32) (nl : Nat) (nc : Nat) (nF : Nat) (np : Nat) (ntr : Nat) (nb : Nat) (mbestCost : Int32) (nso : Nat) (nsi : Nat) (nit : Nat) (nsh : Nat) (nsf : Nat) (nss : Nat) (nrc : Nat) (jr : Nat) (jd : Nat) (mnumber : Int32) (mwhose : Int32) (msize : Int32) (misParted : Int32) (fnrc : Nat → Int32) (hjr : jr ≤ 30) (hjd : jd < 7) : MI l G yX12_bodyFrom cX12_bodyFrom 5 (some .int) 48 0 0 [.ref h0, .int 2, .int 3, .int xx] [(h0, .inr (12, [.ref nw, .ref nk, .int mhasKept, .ref nt, .int mtaped, .ref nr, .int mrowMany, .int mroundOf, .int mroundFrom, .int mouts, .ref nm, .int mfromHour, .int mtoHour, .ref ns, .int mfrom, .int mto, .int msort, .int misFault, .int mdeep, .int mcoded, .int mlines, .ref nl, .ref nc, .ref nF, .ref np, .ref ntr, .ref nb, .int mbestCost, .ref nso, .ref nsi, .ref nit, .ref nsh, .ref nsf, .ref nss, .ref nrc, .int (nI jr), .int (nI jd), .int mnumber, .int mwhose, .int msize, .int misParted])), (nrc, .inl (G.2.1, 30, .inl fnrc))] (fun (r : Int32) (u : Nat × Int32 × (Nat → Int32)) => (True) ∧ (u.1 ≤ 30)) (fun u : Nat × Int32 × (Nat → Int32) => [(h0, .inr (12, [.ref nw, .ref nk, .int mhasKept, .ref nt, .int mtaped, .ref nr, .int mrowMany, .int mroundOf, .int mroundFrom, .int mouts, .ref nm, .int mfromHour, .int mtoHour, .ref ns, .int mfrom, .int mto, .int msort, .int misFault, .int mdeep, .int mcoded, .int mlines, .ref nl, .ref nc, .ref nF, .ref np, .ref ntr, .ref nb, .int mbestCost, .ref nso, .ref nsi, .ref nit, .ref nsh, .ref nsf, .ref nss, .ref nrc, .int (nI u.1), .int (nI jd), .int mnumber, .int mwhose, .int msize, .int u.2.1])), (nrc, .inl (G.2.1, 30, .inl u.2.2))]) := by
  refine MI.start (by decide +kernel) (Nat.le_of_ble_eq_true rfl) ?_
  intro p e s m below meth c A ls hC hK hP hD hS hA hl
  have hl : lv_has ls 5 [(0, .ref h0), (1, .int 2), (2, .int 3), (3, .int xx)] := hl
  obtain ⟨hx, hb, hr, hml, hB, hown, hlocks, hnm⟩ := id hC
  refine lv_iload_n hx hb dX12_bodyFrom_0 rfl (lv_at hl 1 rfl) ?_
  refine lv_istore (lv' := [(4, .int 2), (0, .ref h0), (1, .int 2), (2, .int 3), (3, .int xx)]) hx hb dX12_bodyFrom_1 hl (by decide) rfl (fun ls hl => ?_)
  refine lv_iload hx hb dX12_bodyFrom_3 (lv_at hl 0 rfl) ?_
  refine lv_iload_n hx hb dX12_bodyFrom_5 rfl (lv_at hl 3 rfl) ?_
  refine pS hC hK hl (m_hasOwn23 l G) si_X12_360 rfl rfl (Nat.le_of_ble_eq_true rfl) ⟨Nat.le_of_ble_eq_true rfl, Nat.le_of_ble_eq_true rfl⟩ ⟨by first | exact Nat.le_of_ble_eq_true rfl | exact Nat.zero_le _, by first | exact Nat.le_of_ble_eq_true rfl | exact Nat.zero_le _⟩ dX12_bodyFrom_6 (fun r6501 hr6501 => ?_)
  obtain rfl := hr6501
  refine lv_if_ne (tgt := 22) hx hb dX12_bodyFrom_9 (by decide) (fun c9 => absurd (by decide) c9) (fun _ => ?_)
  refine lv_iload hx hb dX12_bodyFrom_12 (lv_at hl 0 rfl) ?_
  refine pS hC hK hl (m_above2 l G) si_X12_348 rfl rfl (Nat.le_of_ble_eq_true rfl) ⟨Nat.le_of_ble_eq_true rfl, Nat.le_of_ble_eq_true rfl⟩ ⟨by first | exact Nat.le_of_ble_eq_true rfl | exact Nat.zero_le _, by first | exact Nat.le_of_ble_eq_true rfl | exact Nat.zero_le _⟩ dX12_bodyFrom_14 (fun r6503 hr6503 => ?_)
  obtain rfl := hr6503
  refine lv_istore (lv' := [(4, .int 0), (0, .ref h0), (1, .int 2), (2, .int 3), (3, .int xx)]) hx hb dX12_bodyFrom_17 hl (by decide) rfl (fun ls hl => ?_)
  refine lv_goto (tgt := 3) hx hb dX12_bodyFrom_19 (by decide) ?_
  refine lv_iload hx hb dX12_bodyFrom_3 (lv_at hl 0 rfl) ?_
  refine lv_iload_n hx hb dX12_bodyFrom_5 rfl (lv_at hl 3 rfl) ?_
  refine pS hC hK hl (m_hasOwn03 l G) si_X12_360 rfl rfl (Nat.le_of_ble_eq_true rfl) ⟨Nat.le_of_ble_eq_true rfl, Nat.le_of_ble_eq_true rfl⟩ ⟨by first | exact Nat.le_of_ble_eq_true rfl | exact Nat.zero_le _, by first | exact Nat.le_of_ble_eq_true rfl | exact Nat.zero_le _⟩ dX12_bodyFrom_6 (fun r6505 hr6505 => ?_)
  obtain rfl := hr6505
  refine lv_if_ne (tgt := 22) hx hb dX12_bodyFrom_9 (by decide) (fun _ => ?_) (fun c9 => absurd c9 (by decide))
  refine lv_aload_n hx hb dX12_bodyFrom_22 rfl (lv_at hl 1 rfl) ?_
  refine lv_iload hx hb dX12_bodyFrom_23 (lv_at hl 0 rfl) ?_
  refine lv_iload_n hx hb dX12_bodyFrom_25 rfl (lv_at hl 3 rfl) ?_
  refine lv_iload_n hx hb dX12_bodyFrom_26 rfl (lv_at hl 4 rfl) ?_
  refine iV (wr := []) hC hK hl hP hD hS hA (m_body03 l G h0 xx nw nk mhasKept nt mtaped nr mrowMany mroundOf mroundFrom mouts nm mfromHour mtoHour ns mfrom mto msort misFault mdeep mcoded mlines nl nc nF np ntr nb mbestCost nso nsi nit nsh nsf nss nrc jr jd mnumber mwhose msize misParted fnrc (by omega) (by omega)) si_X12_363 [0, 1] [] rfl rfl (by decide) rfl (by decide) (by decide) rfl rfl rfl rfl rfl (Nat.le_of_ble_eq_true rfl) ⟨Nat.le_of_ble_eq_true rfl, Nat.le_of_ble_eq_true rfl⟩ ⟨Nat.le_of_ble_eq_true rfl, Nat.le_of_ble_eq_true rfl⟩ dX12_bodyFrom_27 (fun r6507 u6508 H locs hr6507 hP hD hS => ?_)
  obtain ⟨jr16509, ip16510, gtrc6511⟩ := u6508
  try dsimp only at hr6507
  have hP : va_P G.1 vwCl [(h0, .inr (12, [.ref nw, .ref nk, .int mhasKept, .ref nt, .int mtaped, .ref nr, .int mrowMany, .int mroundOf, .int mroundFrom, .int mouts, .ref nm, .int mfromHour, .int mtoHour, .ref ns, .int mfrom, .int mto, .int msort, .int misFault, .int mdeep, .int mcoded, .int mlines, .ref nl, .ref nc, .ref nF, .ref np, .ref ntr, .ref nb, .int mbestCost, .ref nso, .ref nsi, .ref nit, .ref nsh, .ref nsf, .ref nss, .ref nrc, .int (nI jr16509), .int (nI jd), .int mnumber, .int mwhose, .int msize, .int ip16510])), (nrc, .inl (G.2.1, 30, .inl gtrc6511))] H := hP
  have hD : va_D A [(h0, .inr (12, [.ref nw, .ref nk, .int mhasKept, .ref nt, .int mtaped, .ref nr, .int mrowMany, .int mroundOf, .int mroundFrom, .int mouts, .ref nm, .int mfromHour, .int mtoHour, .ref ns, .int mfrom, .int mto, .int msort, .int misFault, .int mdeep, .int mcoded, .int mlines, .ref nl, .ref nc, .ref nF, .ref np, .ref ntr, .ref nb, .int mbestCost, .ref nso, .ref nsi, .ref nit, .ref nsh, .ref nsf, .ref nss, .ref nrc, .int (nI jr16509), .int (nI jd), .int mnumber, .int mwhose, .int msize, .int ip16510])), (nrc, .inl (G.2.1, 30, .inl gtrc6511))] := hD
  obtain ⟨hr6507, w6512⟩ := hr6507
  exact RI (v := r6507) hC hP hD hS [0, 1] (jr16509, ip16510, gtrc6511) rfl rfl (by decide) (⟨trivial, by omega⟩) rfl dX12_bodyFrom_30
set_option maxHeartbeats 4000000 in
set_option maxRecDepth 100000 in
theorem m_from43 (l : Launch) (G : GG) (h0 : Nat) (xx : Int32) (nw : Nat) (nk : Nat) (mhasKept : Int32) (nt : Nat) (mtaped : Int32) (nr : Nat) (mrowMany : Int32) (mroundOf : Int32) (mroundFrom : Int32) (mouts : Int32) (nm : Nat) (mfromHour : Int32) (mtoHour : Int32) (ns : Nat) (mfrom : Int32) (mto : Int32) (msort : Int32) (misFault : Int32) (mdeep : Int32) (mcoded : Int32) (mlines : Int32) (nl : Nat) (nc : Nat) (nF : Nat) (np : Nat) (ntr : Nat) (nb : Nat) (mbestCost : Int32) (nso : Nat) (nsi : Nat) (nit : Nat) (nsh : Nat) (nsf : Nat) (nss : Nat) (nrc : Nat) (jr : Nat) (jd : Nat) (mnumber : Int32) (mwhose : Int32) (msize : Int32) (misParted : Int32) (fnrc : Nat → Int32) (hjr : jr ≤ 30) (hjd : jd < 7) : MI l G yX12_bodyFrom cX12_bodyFrom 5 (some .int) 48 0 0 [.ref h0, .int 4, .int 3, .int xx] [(h0, .inr (12, [.ref nw, .ref nk, .int mhasKept, .ref nt, .int mtaped, .ref nr, .int mrowMany, .int mroundOf, .int mroundFrom, .int mouts, .ref nm, .int mfromHour, .int mtoHour, .ref ns, .int mfrom, .int mto, .int msort, .int misFault, .int mdeep, .int mcoded, .int mlines, .ref nl, .ref nc, .ref nF, .ref np, .ref ntr, .ref nb, .int mbestCost, .ref nso, .ref nsi, .ref nit, .ref nsh, .ref nsf, .ref nss, .ref nrc, .int (nI jr), .int (nI jd), .int mnumber, .int mwhose, .int msize, .int misParted])), (nrc, .inl (G.2.1, 30, .inl fnrc))] (fun (r : Int32) (u : Nat × Int32 × (Nat → Int32)) => (True) ∧ (u.1 ≤ 30)) (fun u : Nat × Int32 × (Nat → Int32) => [(h0, .inr (12, [.ref nw, .ref nk, .int mhasKept, .ref nt, .int mtaped, .ref nr, .int mrowMany, .int mroundOf, .int mroundFrom, .int mouts, .ref nm, .int mfromHour, .int mtoHour, .ref ns, .int mfrom, .int mto, .int msort, .int misFault, .int mdeep, .int mcoded, .int mlines, .ref nl, .ref nc, .ref nF, .ref np, .ref ntr, .ref nb, .int mbestCost, .ref nso, .ref nsi, .ref nit, .ref nsh, .ref nsf, .ref nss, .ref nrc, .int (nI u.1), .int (nI jd), .int mnumber, .int mwhose, .int msize, .int u.2.1])), (nrc, .inl (G.2.1, 30, .inl u.2.2))]) := by
  refine MI.start (by decide +kernel) (Nat.le_of_ble_eq_true rfl) ?_
  intro p e s m below meth c A ls hC hK hP hD hS hA hl
  have hl : lv_has ls 5 [(0, .ref h0), (1, .int 4), (2, .int 3), (3, .int xx)] := hl
  obtain ⟨hx, hb, hr, hml, hB, hown, hlocks, hnm⟩ := id hC
  refine lv_iload_n hx hb dX12_bodyFrom_0 rfl (lv_at hl 1 rfl) ?_
  refine lv_istore (lv' := [(4, .int 4), (0, .ref h0), (1, .int 4), (2, .int 3), (3, .int xx)]) hx hb dX12_bodyFrom_1 hl (by decide) rfl (fun ls hl => ?_)
  refine lv_iload hx hb dX12_bodyFrom_3 (lv_at hl 0 rfl) ?_
  refine lv_iload_n hx hb dX12_bodyFrom_5 rfl (lv_at hl 3 rfl) ?_
  refine pS hC hK hl (m_hasOwn43 l G) si_X12_360 rfl rfl (Nat.le_of_ble_eq_true rfl) ⟨Nat.le_of_ble_eq_true rfl, Nat.le_of_ble_eq_true rfl⟩ ⟨by first | exact Nat.le_of_ble_eq_true rfl | exact Nat.zero_le _, by first | exact Nat.le_of_ble_eq_true rfl | exact Nat.zero_le _⟩ dX12_bodyFrom_6 (fun r6513 hr6513 => ?_)
  obtain rfl := hr6513
  refine lv_if_ne (tgt := 22) hx hb dX12_bodyFrom_9 (by decide) (fun c9 => absurd (by decide) c9) (fun _ => ?_)
  refine lv_iload hx hb dX12_bodyFrom_12 (lv_at hl 0 rfl) ?_
  refine pS hC hK hl (m_above4 l G) si_X12_348 rfl rfl (Nat.le_of_ble_eq_true rfl) ⟨Nat.le_of_ble_eq_true rfl, Nat.le_of_ble_eq_true rfl⟩ ⟨by first | exact Nat.le_of_ble_eq_true rfl | exact Nat.zero_le _, by first | exact Nat.le_of_ble_eq_true rfl | exact Nat.zero_le _⟩ dX12_bodyFrom_14 (fun r6515 hr6515 => ?_)
  obtain rfl := hr6515
  refine lv_istore (lv' := [(4, .int 0), (0, .ref h0), (1, .int 4), (2, .int 3), (3, .int xx)]) hx hb dX12_bodyFrom_17 hl (by decide) rfl (fun ls hl => ?_)
  refine lv_goto (tgt := 3) hx hb dX12_bodyFrom_19 (by decide) ?_
  refine lv_iload hx hb dX12_bodyFrom_3 (lv_at hl 0 rfl) ?_
  refine lv_iload_n hx hb dX12_bodyFrom_5 rfl (lv_at hl 3 rfl) ?_
  refine pS hC hK hl (m_hasOwn03 l G) si_X12_360 rfl rfl (Nat.le_of_ble_eq_true rfl) ⟨Nat.le_of_ble_eq_true rfl, Nat.le_of_ble_eq_true rfl⟩ ⟨by first | exact Nat.le_of_ble_eq_true rfl | exact Nat.zero_le _, by first | exact Nat.le_of_ble_eq_true rfl | exact Nat.zero_le _⟩ dX12_bodyFrom_6 (fun r6517 hr6517 => ?_)
  obtain rfl := hr6517
  refine lv_if_ne (tgt := 22) hx hb dX12_bodyFrom_9 (by decide) (fun _ => ?_) (fun c9 => absurd c9 (by decide))
  refine lv_aload_n hx hb dX12_bodyFrom_22 rfl (lv_at hl 1 rfl) ?_
  refine lv_iload hx hb dX12_bodyFrom_23 (lv_at hl 0 rfl) ?_
  refine lv_iload_n hx hb dX12_bodyFrom_25 rfl (lv_at hl 3 rfl) ?_
  refine lv_iload_n hx hb dX12_bodyFrom_26 rfl (lv_at hl 4 rfl) ?_
  refine iV (wr := []) hC hK hl hP hD hS hA (m_body03 l G h0 xx nw nk mhasKept nt mtaped nr mrowMany mroundOf mroundFrom mouts nm mfromHour mtoHour ns mfrom mto msort misFault mdeep mcoded mlines nl nc nF np ntr nb mbestCost nso nsi nit nsh nsf nss nrc jr jd mnumber mwhose msize misParted fnrc (by omega) (by omega)) si_X12_363 [0, 1] [] rfl rfl (by decide) rfl (by decide) (by decide) rfl rfl rfl rfl rfl (Nat.le_of_ble_eq_true rfl) ⟨Nat.le_of_ble_eq_true rfl, Nat.le_of_ble_eq_true rfl⟩ ⟨Nat.le_of_ble_eq_true rfl, Nat.le_of_ble_eq_true rfl⟩ dX12_bodyFrom_27 (fun r6519 u6520 H locs hr6519 hP hD hS => ?_)
  obtain ⟨jr16521, ip16522, gtrc6523⟩ := u6520
  try dsimp only at hr6519
  have hP : va_P G.1 vwCl [(h0, .inr (12, [.ref nw, .ref nk, .int mhasKept, .ref nt, .int mtaped, .ref nr, .int mrowMany, .int mroundOf, .int mroundFrom, .int mouts, .ref nm, .int mfromHour, .int mtoHour, .ref ns, .int mfrom, .int mto, .int msort, .int misFault, .int mdeep, .int mcoded, .int mlines, .ref nl, .ref nc, .ref nF, .ref np, .ref ntr, .ref nb, .int mbestCost, .ref nso, .ref nsi, .ref nit, .ref nsh, .ref nsf, .ref nss, .ref nrc, .int (nI jr16521), .int (nI jd), .int mnumber, .int mwhose, .int msize, .int ip16522])), (nrc, .inl (G.2.1, 30, .inl gtrc6523))] H := hP
  have hD : va_D A [(h0, .inr (12, [.ref nw, .ref nk, .int mhasKept, .ref nt, .int mtaped, .ref nr, .int mrowMany, .int mroundOf, .int mroundFrom, .int mouts, .ref nm, .int mfromHour, .int mtoHour, .ref ns, .int mfrom, .int mto, .int msort, .int misFault, .int mdeep, .int mcoded, .int mlines, .ref nl, .ref nc, .ref nF, .ref np, .ref ntr, .ref nb, .int mbestCost, .ref nso, .ref nsi, .ref nit, .ref nsh, .ref nsf, .ref nss, .ref nrc, .int (nI jr16521), .int (nI jd), .int mnumber, .int mwhose, .int msize, .int ip16522])), (nrc, .inl (G.2.1, 30, .inl gtrc6523))] := hD
  obtain ⟨hr6519, w6524⟩ := hr6519
  exact RI (v := r6519) hC hP hD hS [0, 1] (jr16521, ip16522, gtrc6523) rfl rfl (by decide) (⟨trivial, by omega⟩) rfl dX12_bodyFrom_30
set_option maxHeartbeats 4000000 in
set_option maxRecDepth 100000 in
theorem m_from53 (l : Launch) (G : GG) (h0 : Nat) (xx : Int32) (nw : Nat) (nk : Nat) (mhasKept : Int32) (nt : Nat) (mtaped : Int32) (nr : Nat) (mrowMany : Int32) (mroundOf : Int32) (mroundFrom : Int32) (mouts : Int32) (nm : Nat) (mfromHour : Int32) (mtoHour : Int32) (ns : Nat) (mfrom : Int32) (mto : Int32) (msort : Int32) (misFault : Int32) (mdeep : Int32) (mcoded : Int32) (mlines : Int32) (nl : Nat) (nc : Nat) (nF : Nat) (np : Nat) (ntr : Nat) (nb : Nat) (mbestCost : Int32) (nso : Nat) (nsi : Nat) (nit : Nat) (nsh : Nat) (nsf : Nat) (nss : Nat) (nrc : Nat) (jr : Nat) (jd : Nat) (mnumber : Int32) (mwhose : Int32) (msize : Int32) (misParted : Int32) (fnrc : Nat → Int32) (hjr : jr ≤ 30) (hjd : jd < 7) : MI l G yX12_bodyFrom cX12_bodyFrom 5 (some .int) 48 0 0 [.ref h0, .int 5, .int 3, .int xx] [(h0, .inr (12, [.ref nw, .ref nk, .int mhasKept, .ref nt, .int mtaped, .ref nr, .int mrowMany, .int mroundOf, .int mroundFrom, .int mouts, .ref nm, .int mfromHour, .int mtoHour, .ref ns, .int mfrom, .int mto, .int msort, .int misFault, .int mdeep, .int mcoded, .int mlines, .ref nl, .ref nc, .ref nF, .ref np, .ref ntr, .ref nb, .int mbestCost, .ref nso, .ref nsi, .ref nit, .ref nsh, .ref nsf, .ref nss, .ref nrc, .int (nI jr), .int (nI jd), .int mnumber, .int mwhose, .int msize, .int misParted])), (nrc, .inl (G.2.1, 30, .inl fnrc))] (fun (r : Int32) (u : Nat × Int32 × (Nat → Int32)) => (True) ∧ (u.1 ≤ 30)) (fun u : Nat × Int32 × (Nat → Int32) => [(h0, .inr (12, [.ref nw, .ref nk, .int mhasKept, .ref nt, .int mtaped, .ref nr, .int mrowMany, .int mroundOf, .int mroundFrom, .int mouts, .ref nm, .int mfromHour, .int mtoHour, .ref ns, .int mfrom, .int mto, .int msort, .int misFault, .int mdeep, .int mcoded, .int mlines, .ref nl, .ref nc, .ref nF, .ref np, .ref ntr, .ref nb, .int mbestCost, .ref nso, .ref nsi, .ref nit, .ref nsh, .ref nsf, .ref nss, .ref nrc, .int (nI u.1), .int (nI jd), .int mnumber, .int mwhose, .int msize, .int u.2.1])), (nrc, .inl (G.2.1, 30, .inl u.2.2))]) := by
  refine MI.start (by decide +kernel) (Nat.le_of_ble_eq_true rfl) ?_
  intro p e s m below meth c A ls hC hK hP hD hS hA hl
  have hl : lv_has ls 5 [(0, .ref h0), (1, .int 5), (2, .int 3), (3, .int xx)] := hl
  obtain ⟨hx, hb, hr, hml, hB, hown, hlocks, hnm⟩ := id hC
  refine lv_iload_n hx hb dX12_bodyFrom_0 rfl (lv_at hl 1 rfl) ?_
  refine lv_istore (lv' := [(4, .int 5), (0, .ref h0), (1, .int 5), (2, .int 3), (3, .int xx)]) hx hb dX12_bodyFrom_1 hl (by decide) rfl (fun ls hl => ?_)
  refine lv_iload hx hb dX12_bodyFrom_3 (lv_at hl 0 rfl) ?_
  refine lv_iload_n hx hb dX12_bodyFrom_5 rfl (lv_at hl 3 rfl) ?_
  refine pS hC hK hl (m_hasOwn53 l G) si_X12_360 rfl rfl (Nat.le_of_ble_eq_true rfl) ⟨Nat.le_of_ble_eq_true rfl, Nat.le_of_ble_eq_true rfl⟩ ⟨by first | exact Nat.le_of_ble_eq_true rfl | exact Nat.zero_le _, by first | exact Nat.le_of_ble_eq_true rfl | exact Nat.zero_le _⟩ dX12_bodyFrom_6 (fun r6525 hr6525 => ?_)
  obtain rfl := hr6525
  refine lv_if_ne (tgt := 22) hx hb dX12_bodyFrom_9 (by decide) (fun c9 => absurd (by decide) c9) (fun _ => ?_)
  refine lv_iload hx hb dX12_bodyFrom_12 (lv_at hl 0 rfl) ?_
  refine pS hC hK hl (m_above5 l G) si_X12_348 rfl rfl (Nat.le_of_ble_eq_true rfl) ⟨Nat.le_of_ble_eq_true rfl, Nat.le_of_ble_eq_true rfl⟩ ⟨by first | exact Nat.le_of_ble_eq_true rfl | exact Nat.zero_le _, by first | exact Nat.le_of_ble_eq_true rfl | exact Nat.zero_le _⟩ dX12_bodyFrom_14 (fun r6527 hr6527 => ?_)
  obtain rfl := hr6527
  refine lv_istore (lv' := [(4, .int 4), (0, .ref h0), (1, .int 5), (2, .int 3), (3, .int xx)]) hx hb dX12_bodyFrom_17 hl (by decide) rfl (fun ls hl => ?_)
  refine lv_goto (tgt := 3) hx hb dX12_bodyFrom_19 (by decide) ?_
  refine lv_iload hx hb dX12_bodyFrom_3 (lv_at hl 0 rfl) ?_
  refine lv_iload_n hx hb dX12_bodyFrom_5 rfl (lv_at hl 3 rfl) ?_
  refine pS hC hK hl (m_hasOwn43 l G) si_X12_360 rfl rfl (Nat.le_of_ble_eq_true rfl) ⟨Nat.le_of_ble_eq_true rfl, Nat.le_of_ble_eq_true rfl⟩ ⟨by first | exact Nat.le_of_ble_eq_true rfl | exact Nat.zero_le _, by first | exact Nat.le_of_ble_eq_true rfl | exact Nat.zero_le _⟩ dX12_bodyFrom_6 (fun r6529 hr6529 => ?_)
  obtain rfl := hr6529
  refine lv_if_ne (tgt := 22) hx hb dX12_bodyFrom_9 (by decide) (fun c9 => absurd (by decide) c9) (fun _ => ?_)
  refine lv_iload hx hb dX12_bodyFrom_12 (lv_at hl 0 rfl) ?_
  refine pS hC hK hl (m_above4 l G) si_X12_348 rfl rfl (Nat.le_of_ble_eq_true rfl) ⟨Nat.le_of_ble_eq_true rfl, Nat.le_of_ble_eq_true rfl⟩ ⟨by first | exact Nat.le_of_ble_eq_true rfl | exact Nat.zero_le _, by first | exact Nat.le_of_ble_eq_true rfl | exact Nat.zero_le _⟩ dX12_bodyFrom_14 (fun r6531 hr6531 => ?_)
  obtain rfl := hr6531
  refine lv_istore (lv' := [(4, .int 0), (0, .ref h0), (1, .int 5), (2, .int 3), (3, .int xx)]) hx hb dX12_bodyFrom_17 hl (by decide) rfl (fun ls hl => ?_)
  refine lv_goto (tgt := 3) hx hb dX12_bodyFrom_19 (by decide) ?_
  refine lv_iload hx hb dX12_bodyFrom_3 (lv_at hl 0 rfl) ?_
  refine lv_iload_n hx hb dX12_bodyFrom_5 rfl (lv_at hl 3 rfl) ?_
  refine pS hC hK hl (m_hasOwn03 l G) si_X12_360 rfl rfl (Nat.le_of_ble_eq_true rfl) ⟨Nat.le_of_ble_eq_true rfl, Nat.le_of_ble_eq_true rfl⟩ ⟨by first | exact Nat.le_of_ble_eq_true rfl | exact Nat.zero_le _, by first | exact Nat.le_of_ble_eq_true rfl | exact Nat.zero_le _⟩ dX12_bodyFrom_6 (fun r6533 hr6533 => ?_)
  obtain rfl := hr6533
  refine lv_if_ne (tgt := 22) hx hb dX12_bodyFrom_9 (by decide) (fun _ => ?_) (fun c9 => absurd c9 (by decide))
  refine lv_aload_n hx hb dX12_bodyFrom_22 rfl (lv_at hl 1 rfl) ?_
  refine lv_iload hx hb dX12_bodyFrom_23 (lv_at hl 0 rfl) ?_
  refine lv_iload_n hx hb dX12_bodyFrom_25 rfl (lv_at hl 3 rfl) ?_
  refine lv_iload_n hx hb dX12_bodyFrom_26 rfl (lv_at hl 4 rfl) ?_
  refine iV (wr := []) hC hK hl hP hD hS hA (m_body03 l G h0 xx nw nk mhasKept nt mtaped nr mrowMany mroundOf mroundFrom mouts nm mfromHour mtoHour ns mfrom mto msort misFault mdeep mcoded mlines nl nc nF np ntr nb mbestCost nso nsi nit nsh nsf nss nrc jr jd mnumber mwhose msize misParted fnrc (by omega) (by omega)) si_X12_363 [0, 1] [] rfl rfl (by decide) rfl (by decide) (by decide) rfl rfl rfl rfl rfl (Nat.le_of_ble_eq_true rfl) ⟨Nat.le_of_ble_eq_true rfl, Nat.le_of_ble_eq_true rfl⟩ ⟨Nat.le_of_ble_eq_true rfl, Nat.le_of_ble_eq_true rfl⟩ dX12_bodyFrom_27 (fun r6535 u6536 H locs hr6535 hP hD hS => ?_)
  obtain ⟨jr16537, ip16538, gtrc6539⟩ := u6536
  try dsimp only at hr6535
  have hP : va_P G.1 vwCl [(h0, .inr (12, [.ref nw, .ref nk, .int mhasKept, .ref nt, .int mtaped, .ref nr, .int mrowMany, .int mroundOf, .int mroundFrom, .int mouts, .ref nm, .int mfromHour, .int mtoHour, .ref ns, .int mfrom, .int mto, .int msort, .int misFault, .int mdeep, .int mcoded, .int mlines, .ref nl, .ref nc, .ref nF, .ref np, .ref ntr, .ref nb, .int mbestCost, .ref nso, .ref nsi, .ref nit, .ref nsh, .ref nsf, .ref nss, .ref nrc, .int (nI jr16537), .int (nI jd), .int mnumber, .int mwhose, .int msize, .int ip16538])), (nrc, .inl (G.2.1, 30, .inl gtrc6539))] H := hP
  have hD : va_D A [(h0, .inr (12, [.ref nw, .ref nk, .int mhasKept, .ref nt, .int mtaped, .ref nr, .int mrowMany, .int mroundOf, .int mroundFrom, .int mouts, .ref nm, .int mfromHour, .int mtoHour, .ref ns, .int mfrom, .int mto, .int msort, .int misFault, .int mdeep, .int mcoded, .int mlines, .ref nl, .ref nc, .ref nF, .ref np, .ref ntr, .ref nb, .int mbestCost, .ref nso, .ref nsi, .ref nit, .ref nsh, .ref nsf, .ref nss, .ref nrc, .int (nI jr16537), .int (nI jd), .int mnumber, .int mwhose, .int msize, .int ip16538])), (nrc, .inl (G.2.1, 30, .inl gtrc6539))] := hD
  obtain ⟨hr6535, w6540⟩ := hr6535
  exact RI (v := r6535) hC hP hD hS [0, 1] (jr16537, ip16538, gtrc6539) rfl rfl (by decide) (⟨trivial, by omega⟩) rfl dX12_bodyFrom_30
set_option maxHeartbeats 4000000 in
set_option maxRecDepth 100000 in
theorem m_dealt3 (l : Launch) (G : GG) (h0 : Nat) (xx : Int32) (nw : Nat) (nk : Nat) (mhasKept : Int32) (nt : Nat) (mtaped : Int32) (nr : Nat) (mrowMany : Int32) (mroundOf : Int32) (mroundFrom : Int32) (mouts : Int32) (nm : Nat) (mfromHour : Int32) (mtoHour : Int32) (ns : Nat) (mfrom : Int32) (mto : Int32) (msort : Int32) (misFault : Int32) (mdeep : Int32) (mcoded : Int32) (mlines : Int32) (nl : Nat) (nc : Nat) (nF : Nat) (np : Nat) (ntr : Nat) (nb : Nat) (mbestCost : Int32) (nso : Nat) (nsi : Nat) (nit : Nat) (nsh : Nat) (nsf : Nat) (nss : Nat) (nrc : Nat) (jr : Nat) (jd : Nat) (mnumber : Int32) (mwhose : Int32) (msize : Int32) (misParted : Int32) (fnrc : Nat → Int32) (hjr : jr ≤ 30) (hjd : jd < 7) : MI l G yX12_dealt cX12_dealt 3 (some .int) 50 0 0 [.ref h0, .int 3, .int xx] [(h0, .inr (12, [.ref nw, .ref nk, .int mhasKept, .ref nt, .int mtaped, .ref nr, .int mrowMany, .int mroundOf, .int mroundFrom, .int mouts, .ref nm, .int mfromHour, .int mtoHour, .ref ns, .int mfrom, .int mto, .int msort, .int misFault, .int mdeep, .int mcoded, .int mlines, .ref nl, .ref nc, .ref nF, .ref np, .ref ntr, .ref nb, .int mbestCost, .ref nso, .ref nsi, .ref nit, .ref nsh, .ref nsf, .ref nss, .ref nrc, .int (nI jr), .int (nI jd), .int mnumber, .int mwhose, .int msize, .int misParted])), (nrc, .inl (G.2.1, 30, .inl fnrc))] (fun (r : Int32) (u : Nat × Int32 × (Nat → Int32)) => (True) ∧ (u.1 ≤ 30)) (fun u : Nat × Int32 × (Nat → Int32) => [(h0, .inr (12, [.ref nw, .ref nk, .int mhasKept, .ref nt, .int mtaped, .ref nr, .int mrowMany, .int mroundOf, .int mroundFrom, .int mouts, .ref nm, .int mfromHour, .int mtoHour, .ref ns, .int mfrom, .int mto, .int msort, .int misFault, .int mdeep, .int mcoded, .int mlines, .ref nl, .ref nc, .ref nF, .ref np, .ref ntr, .ref nb, .int mbestCost, .ref nso, .ref nsi, .ref nit, .ref nsh, .ref nsf, .ref nss, .ref nrc, .int (nI u.1), .int (nI jd), .int mnumber, .int mwhose, .int msize, .int u.2.1])), (nrc, .inl (G.2.1, 30, .inl u.2.2))]) := by
  refine MI.start (by decide +kernel) (Nat.le_of_ble_eq_true rfl) ?_
  intro p e s m below meth c A ls hC hK hP hD hS hA hl
  have hl : lv_has ls 3 [(0, .ref h0), (1, .int 3), (2, .int xx)] := hl
  obtain ⟨hx, hb, hr, hml, hB, hown, hlocks, hnm⟩ := id hC
  refine lv_aload_n hx hb dX12_dealt_0 rfl (lv_at hl 0 rfl) ?_
  refine lv_aload_n hx hb dX12_dealt_1 rfl (lv_at hl 0 rfl) ?_
  refine gf_X12_354 hC rfl hK hP 0 rfl rfl dX12_dealt_2 ?_
  refine lv_iload_n hx hb dX12_dealt_5 rfl (lv_at hl 1 rfl) ?_
  refine lv_iload_n hx hb dX12_dealt_6 rfl (lv_at hl 2 rfl) ?_
  rcases (show jd = 0 ∨ jd = 1 ∨ jd = 2 ∨ jd = 3 ∨ jd = 4 ∨ jd = 5 ∨ jd = 6 by omega) with rfl | rfl | rfl | rfl | rfl | rfl | rfl
  · refine iV (wr := []) hC hK hl hP hD hS hA (m_from03 l G h0 xx nw nk mhasKept nt mtaped nr mrowMany mroundOf mroundFrom mouts nm mfromHour mtoHour ns mfrom mto msort misFault mdeep mcoded mlines nl nc nF np ntr nb mbestCost nso nsi nit nsh nsf nss nrc jr 0 mnumber mwhose msize misParted fnrc (by omega) (by omega)) si_X12_357 [0, 1] [] rfl rfl (by decide) rfl (by decide) (by decide) rfl rfl rfl rfl rfl (Nat.le_of_ble_eq_true rfl) ⟨Nat.le_of_ble_eq_true rfl, Nat.le_of_ble_eq_true rfl⟩ ⟨Nat.le_of_ble_eq_true rfl, Nat.le_of_ble_eq_true rfl⟩ dX12_dealt_7 (fun r6541 u6542 H locs hr6541 hP hD hS => ?_)
    obtain ⟨jr16543, ip16544, gtrc6545⟩ := u6542
    try dsimp only at hr6541
    have hP : va_P G.1 vwCl [(h0, .inr (12, [.ref nw, .ref nk, .int mhasKept, .ref nt, .int mtaped, .ref nr, .int mrowMany, .int mroundOf, .int mroundFrom, .int mouts, .ref nm, .int mfromHour, .int mtoHour, .ref ns, .int mfrom, .int mto, .int msort, .int misFault, .int mdeep, .int mcoded, .int mlines, .ref nl, .ref nc, .ref nF, .ref np, .ref ntr, .ref nb, .int mbestCost, .ref nso, .ref nsi, .ref nit, .ref nsh, .ref nsf, .ref nss, .ref nrc, .int (nI jr16543), .int 0, .int mnumber, .int mwhose, .int msize, .int ip16544])), (nrc, .inl (G.2.1, 30, .inl gtrc6545))] H := hP
    have hD : va_D A [(h0, .inr (12, [.ref nw, .ref nk, .int mhasKept, .ref nt, .int mtaped, .ref nr, .int mrowMany, .int mroundOf, .int mroundFrom, .int mouts, .ref nm, .int mfromHour, .int mtoHour, .ref ns, .int mfrom, .int mto, .int msort, .int misFault, .int mdeep, .int mcoded, .int mlines, .ref nl, .ref nc, .ref nF, .ref np, .ref ntr, .ref nb, .int mbestCost, .ref nso, .ref nsi, .ref nit, .ref nsh, .ref nsf, .ref nss, .ref nrc, .int (nI jr16543), .int 0, .int mnumber, .int mwhose, .int msize, .int ip16544])), (nrc, .inl (G.2.1, 30, .inl gtrc6545))] := hD
    obtain ⟨hr6541, w6546⟩ := hr6541
    exact RI (v := r6541) hC hP hD hS [0, 1] (jr16543, ip16544, gtrc6545) rfl rfl (by decide) (⟨trivial, by omega⟩) rfl dX12_dealt_10
  · refine iV (wr := []) hC hK hl hP hD hS hA (m_from13 l G h0 xx nw nk mhasKept nt mtaped nr mrowMany mroundOf mroundFrom mouts nm mfromHour mtoHour ns mfrom mto msort misFault mdeep mcoded mlines nl nc nF np ntr nb mbestCost nso nsi nit nsh nsf nss nrc jr 1 mnumber mwhose msize misParted fnrc (by omega) (by omega)) si_X12_357 [0, 1] [] rfl rfl (by decide) rfl (by decide) (by decide) rfl rfl rfl rfl rfl (Nat.le_of_ble_eq_true rfl) ⟨Nat.le_of_ble_eq_true rfl, Nat.le_of_ble_eq_true rfl⟩ ⟨Nat.le_of_ble_eq_true rfl, Nat.le_of_ble_eq_true rfl⟩ dX12_dealt_7 (fun r6547 u6548 H locs hr6547 hP hD hS => ?_)
    obtain ⟨jr16549, ip16550, gtrc6551⟩ := u6548
    try dsimp only at hr6547
    have hP : va_P G.1 vwCl [(h0, .inr (12, [.ref nw, .ref nk, .int mhasKept, .ref nt, .int mtaped, .ref nr, .int mrowMany, .int mroundOf, .int mroundFrom, .int mouts, .ref nm, .int mfromHour, .int mtoHour, .ref ns, .int mfrom, .int mto, .int msort, .int misFault, .int mdeep, .int mcoded, .int mlines, .ref nl, .ref nc, .ref nF, .ref np, .ref ntr, .ref nb, .int mbestCost, .ref nso, .ref nsi, .ref nit, .ref nsh, .ref nsf, .ref nss, .ref nrc, .int (nI jr16549), .int 1, .int mnumber, .int mwhose, .int msize, .int ip16550])), (nrc, .inl (G.2.1, 30, .inl gtrc6551))] H := hP
    have hD : va_D A [(h0, .inr (12, [.ref nw, .ref nk, .int mhasKept, .ref nt, .int mtaped, .ref nr, .int mrowMany, .int mroundOf, .int mroundFrom, .int mouts, .ref nm, .int mfromHour, .int mtoHour, .ref ns, .int mfrom, .int mto, .int msort, .int misFault, .int mdeep, .int mcoded, .int mlines, .ref nl, .ref nc, .ref nF, .ref np, .ref ntr, .ref nb, .int mbestCost, .ref nso, .ref nsi, .ref nit, .ref nsh, .ref nsf, .ref nss, .ref nrc, .int (nI jr16549), .int 1, .int mnumber, .int mwhose, .int msize, .int ip16550])), (nrc, .inl (G.2.1, 30, .inl gtrc6551))] := hD
    obtain ⟨hr6547, w6552⟩ := hr6547
    exact RI (v := r6547) hC hP hD hS [0, 1] (jr16549, ip16550, gtrc6551) rfl rfl (by decide) (⟨trivial, by omega⟩) rfl dX12_dealt_10
  · refine iV (wr := []) hC hK hl hP hD hS hA (m_from23 l G h0 xx nw nk mhasKept nt mtaped nr mrowMany mroundOf mroundFrom mouts nm mfromHour mtoHour ns mfrom mto msort misFault mdeep mcoded mlines nl nc nF np ntr nb mbestCost nso nsi nit nsh nsf nss nrc jr 2 mnumber mwhose msize misParted fnrc (by omega) (by omega)) si_X12_357 [0, 1] [] rfl rfl (by decide) rfl (by decide) (by decide) rfl rfl rfl rfl rfl (Nat.le_of_ble_eq_true rfl) ⟨Nat.le_of_ble_eq_true rfl, Nat.le_of_ble_eq_true rfl⟩ ⟨Nat.le_of_ble_eq_true rfl, Nat.le_of_ble_eq_true rfl⟩ dX12_dealt_7 (fun r6553 u6554 H locs hr6553 hP hD hS => ?_)
    obtain ⟨jr16555, ip16556, gtrc6557⟩ := u6554
    try dsimp only at hr6553
    have hP : va_P G.1 vwCl [(h0, .inr (12, [.ref nw, .ref nk, .int mhasKept, .ref nt, .int mtaped, .ref nr, .int mrowMany, .int mroundOf, .int mroundFrom, .int mouts, .ref nm, .int mfromHour, .int mtoHour, .ref ns, .int mfrom, .int mto, .int msort, .int misFault, .int mdeep, .int mcoded, .int mlines, .ref nl, .ref nc, .ref nF, .ref np, .ref ntr, .ref nb, .int mbestCost, .ref nso, .ref nsi, .ref nit, .ref nsh, .ref nsf, .ref nss, .ref nrc, .int (nI jr16555), .int 2, .int mnumber, .int mwhose, .int msize, .int ip16556])), (nrc, .inl (G.2.1, 30, .inl gtrc6557))] H := hP
    have hD : va_D A [(h0, .inr (12, [.ref nw, .ref nk, .int mhasKept, .ref nt, .int mtaped, .ref nr, .int mrowMany, .int mroundOf, .int mroundFrom, .int mouts, .ref nm, .int mfromHour, .int mtoHour, .ref ns, .int mfrom, .int mto, .int msort, .int misFault, .int mdeep, .int mcoded, .int mlines, .ref nl, .ref nc, .ref nF, .ref np, .ref ntr, .ref nb, .int mbestCost, .ref nso, .ref nsi, .ref nit, .ref nsh, .ref nsf, .ref nss, .ref nrc, .int (nI jr16555), .int 2, .int mnumber, .int mwhose, .int msize, .int ip16556])), (nrc, .inl (G.2.1, 30, .inl gtrc6557))] := hD
    obtain ⟨hr6553, w6558⟩ := hr6553
    exact RI (v := r6553) hC hP hD hS [0, 1] (jr16555, ip16556, gtrc6557) rfl rfl (by decide) (⟨trivial, by omega⟩) rfl dX12_dealt_10
  · refine iV (wr := []) hC hK hl hP hD hS hA (m_from33 l G h0 xx nw nk mhasKept nt mtaped nr mrowMany mroundOf mroundFrom mouts nm mfromHour mtoHour ns mfrom mto msort misFault mdeep mcoded mlines nl nc nF np ntr nb mbestCost nso nsi nit nsh nsf nss nrc jr 3 mnumber mwhose msize misParted fnrc (by omega) (by omega)) si_X12_357 [0, 1] [] rfl rfl (by decide) rfl (by decide) (by decide) rfl rfl rfl rfl rfl (Nat.le_of_ble_eq_true rfl) ⟨Nat.le_of_ble_eq_true rfl, Nat.le_of_ble_eq_true rfl⟩ ⟨Nat.le_of_ble_eq_true rfl, Nat.le_of_ble_eq_true rfl⟩ dX12_dealt_7 (fun r6559 u6560 H locs hr6559 hP hD hS => ?_)
    obtain ⟨jr16561, ip16562, gtrc6563⟩ := u6560
    try dsimp only at hr6559
    have hP : va_P G.1 vwCl [(h0, .inr (12, [.ref nw, .ref nk, .int mhasKept, .ref nt, .int mtaped, .ref nr, .int mrowMany, .int mroundOf, .int mroundFrom, .int mouts, .ref nm, .int mfromHour, .int mtoHour, .ref ns, .int mfrom, .int mto, .int msort, .int misFault, .int mdeep, .int mcoded, .int mlines, .ref nl, .ref nc, .ref nF, .ref np, .ref ntr, .ref nb, .int mbestCost, .ref nso, .ref nsi, .ref nit, .ref nsh, .ref nsf, .ref nss, .ref nrc, .int (nI jr16561), .int 3, .int mnumber, .int mwhose, .int msize, .int ip16562])), (nrc, .inl (G.2.1, 30, .inl gtrc6563))] H := hP
    have hD : va_D A [(h0, .inr (12, [.ref nw, .ref nk, .int mhasKept, .ref nt, .int mtaped, .ref nr, .int mrowMany, .int mroundOf, .int mroundFrom, .int mouts, .ref nm, .int mfromHour, .int mtoHour, .ref ns, .int mfrom, .int mto, .int msort, .int misFault, .int mdeep, .int mcoded, .int mlines, .ref nl, .ref nc, .ref nF, .ref np, .ref ntr, .ref nb, .int mbestCost, .ref nso, .ref nsi, .ref nit, .ref nsh, .ref nsf, .ref nss, .ref nrc, .int (nI jr16561), .int 3, .int mnumber, .int mwhose, .int msize, .int ip16562])), (nrc, .inl (G.2.1, 30, .inl gtrc6563))] := hD
    obtain ⟨hr6559, w6564⟩ := hr6559
    exact RI (v := r6559) hC hP hD hS [0, 1] (jr16561, ip16562, gtrc6563) rfl rfl (by decide) (⟨trivial, by omega⟩) rfl dX12_dealt_10
  · refine iV (wr := []) hC hK hl hP hD hS hA (m_from43 l G h0 xx nw nk mhasKept nt mtaped nr mrowMany mroundOf mroundFrom mouts nm mfromHour mtoHour ns mfrom mto msort misFault mdeep mcoded mlines nl nc nF np ntr nb mbestCost nso nsi nit nsh nsf nss nrc jr 4 mnumber mwhose msize misParted fnrc (by omega) (by omega)) si_X12_357 [0, 1] [] rfl rfl (by decide) rfl (by decide) (by decide) rfl rfl rfl rfl rfl (Nat.le_of_ble_eq_true rfl) ⟨Nat.le_of_ble_eq_true rfl, Nat.le_of_ble_eq_true rfl⟩ ⟨Nat.le_of_ble_eq_true rfl, Nat.le_of_ble_eq_true rfl⟩ dX12_dealt_7 (fun r6565 u6566 H locs hr6565 hP hD hS => ?_)
    obtain ⟨jr16567, ip16568, gtrc6569⟩ := u6566
    try dsimp only at hr6565
    have hP : va_P G.1 vwCl [(h0, .inr (12, [.ref nw, .ref nk, .int mhasKept, .ref nt, .int mtaped, .ref nr, .int mrowMany, .int mroundOf, .int mroundFrom, .int mouts, .ref nm, .int mfromHour, .int mtoHour, .ref ns, .int mfrom, .int mto, .int msort, .int misFault, .int mdeep, .int mcoded, .int mlines, .ref nl, .ref nc, .ref nF, .ref np, .ref ntr, .ref nb, .int mbestCost, .ref nso, .ref nsi, .ref nit, .ref nsh, .ref nsf, .ref nss, .ref nrc, .int (nI jr16567), .int 4, .int mnumber, .int mwhose, .int msize, .int ip16568])), (nrc, .inl (G.2.1, 30, .inl gtrc6569))] H := hP
    have hD : va_D A [(h0, .inr (12, [.ref nw, .ref nk, .int mhasKept, .ref nt, .int mtaped, .ref nr, .int mrowMany, .int mroundOf, .int mroundFrom, .int mouts, .ref nm, .int mfromHour, .int mtoHour, .ref ns, .int mfrom, .int mto, .int msort, .int misFault, .int mdeep, .int mcoded, .int mlines, .ref nl, .ref nc, .ref nF, .ref np, .ref ntr, .ref nb, .int mbestCost, .ref nso, .ref nsi, .ref nit, .ref nsh, .ref nsf, .ref nss, .ref nrc, .int (nI jr16567), .int 4, .int mnumber, .int mwhose, .int msize, .int ip16568])), (nrc, .inl (G.2.1, 30, .inl gtrc6569))] := hD
    obtain ⟨hr6565, w6570⟩ := hr6565
    exact RI (v := r6565) hC hP hD hS [0, 1] (jr16567, ip16568, gtrc6569) rfl rfl (by decide) (⟨trivial, by omega⟩) rfl dX12_dealt_10
  · refine iV (wr := []) hC hK hl hP hD hS hA (m_from53 l G h0 xx nw nk mhasKept nt mtaped nr mrowMany mroundOf mroundFrom mouts nm mfromHour mtoHour ns mfrom mto msort misFault mdeep mcoded mlines nl nc nF np ntr nb mbestCost nso nsi nit nsh nsf nss nrc jr 5 mnumber mwhose msize misParted fnrc (by omega) (by omega)) si_X12_357 [0, 1] [] rfl rfl (by decide) rfl (by decide) (by decide) rfl rfl rfl rfl rfl (Nat.le_of_ble_eq_true rfl) ⟨Nat.le_of_ble_eq_true rfl, Nat.le_of_ble_eq_true rfl⟩ ⟨Nat.le_of_ble_eq_true rfl, Nat.le_of_ble_eq_true rfl⟩ dX12_dealt_7 (fun r6571 u6572 H locs hr6571 hP hD hS => ?_)
    obtain ⟨jr16573, ip16574, gtrc6575⟩ := u6572
    try dsimp only at hr6571
    have hP : va_P G.1 vwCl [(h0, .inr (12, [.ref nw, .ref nk, .int mhasKept, .ref nt, .int mtaped, .ref nr, .int mrowMany, .int mroundOf, .int mroundFrom, .int mouts, .ref nm, .int mfromHour, .int mtoHour, .ref ns, .int mfrom, .int mto, .int msort, .int misFault, .int mdeep, .int mcoded, .int mlines, .ref nl, .ref nc, .ref nF, .ref np, .ref ntr, .ref nb, .int mbestCost, .ref nso, .ref nsi, .ref nit, .ref nsh, .ref nsf, .ref nss, .ref nrc, .int (nI jr16573), .int 5, .int mnumber, .int mwhose, .int msize, .int ip16574])), (nrc, .inl (G.2.1, 30, .inl gtrc6575))] H := hP
    have hD : va_D A [(h0, .inr (12, [.ref nw, .ref nk, .int mhasKept, .ref nt, .int mtaped, .ref nr, .int mrowMany, .int mroundOf, .int mroundFrom, .int mouts, .ref nm, .int mfromHour, .int mtoHour, .ref ns, .int mfrom, .int mto, .int msort, .int misFault, .int mdeep, .int mcoded, .int mlines, .ref nl, .ref nc, .ref nF, .ref np, .ref ntr, .ref nb, .int mbestCost, .ref nso, .ref nsi, .ref nit, .ref nsh, .ref nsf, .ref nss, .ref nrc, .int (nI jr16573), .int 5, .int mnumber, .int mwhose, .int msize, .int ip16574])), (nrc, .inl (G.2.1, 30, .inl gtrc6575))] := hD
    obtain ⟨hr6571, w6576⟩ := hr6571
    exact RI (v := r6571) hC hP hD hS [0, 1] (jr16573, ip16574, gtrc6575) rfl rfl (by decide) (⟨trivial, by omega⟩) rfl dX12_dealt_10
  · refine iV (wr := []) hC hK hl hP hD hS hA (m_from63 l G h0 xx nw nk mhasKept nt mtaped nr mrowMany mroundOf mroundFrom mouts nm mfromHour mtoHour ns mfrom mto msort misFault mdeep mcoded mlines nl nc nF np ntr nb mbestCost nso nsi nit nsh nsf nss nrc jr 6 mnumber mwhose msize misParted fnrc (by omega) (by omega)) si_X12_357 [0, 1] [] rfl rfl (by decide) rfl (by decide) (by decide) rfl rfl rfl rfl rfl (Nat.le_of_ble_eq_true rfl) ⟨Nat.le_of_ble_eq_true rfl, Nat.le_of_ble_eq_true rfl⟩ ⟨Nat.le_of_ble_eq_true rfl, Nat.le_of_ble_eq_true rfl⟩ dX12_dealt_7 (fun r6577 u6578 H locs hr6577 hP hD hS => ?_)
    obtain ⟨jr16579, ip16580, gtrc6581⟩ := u6578
    try dsimp only at hr6577
    have hP : va_P G.1 vwCl [(h0, .inr (12, [.ref nw, .ref nk, .int mhasKept, .ref nt, .int mtaped, .ref nr, .int mrowMany, .int mroundOf, .int mroundFrom, .int mouts, .ref nm, .int mfromHour, .int mtoHour, .ref ns, .int mfrom, .int mto, .int msort, .int misFault, .int mdeep, .int mcoded, .int mlines, .ref nl, .ref nc, .ref nF, .ref np, .ref ntr, .ref nb, .int mbestCost, .ref nso, .ref nsi, .ref nit, .ref nsh, .ref nsf, .ref nss, .ref nrc, .int (nI jr16579), .int 6, .int mnumber, .int mwhose, .int msize, .int ip16580])), (nrc, .inl (G.2.1, 30, .inl gtrc6581))] H := hP
    have hD : va_D A [(h0, .inr (12, [.ref nw, .ref nk, .int mhasKept, .ref nt, .int mtaped, .ref nr, .int mrowMany, .int mroundOf, .int mroundFrom, .int mouts, .ref nm, .int mfromHour, .int mtoHour, .ref ns, .int mfrom, .int mto, .int msort, .int misFault, .int mdeep, .int mcoded, .int mlines, .ref nl, .ref nc, .ref nF, .ref np, .ref ntr, .ref nb, .int mbestCost, .ref nso, .ref nsi, .ref nit, .ref nsh, .ref nsf, .ref nss, .ref nrc, .int (nI jr16579), .int 6, .int mnumber, .int mwhose, .int msize, .int ip16580])), (nrc, .inl (G.2.1, 30, .inl gtrc6581))] := hD
    obtain ⟨hr6577, w6582⟩ := hr6577
    exact RI (v := r6577) hC hP hD hS [0, 1] (jr16579, ip16580, gtrc6581) rfl rfl (by decide) (⟨trivial, by omega⟩) rfl dX12_dealt_10
set_option maxHeartbeats 4000000 in
set_option maxRecDepth 100000 in
theorem w_deal (l : Launch) (G : GG) (h0 : Nat) (x1 : Int32) (x2 : Int32) (x3 : Int32) (nw : Nat) (nk : Nat) (mhasKept : Int32) (nt : Nat) (mtaped : Int32) (nr : Nat) (mrowMany : Int32) (mroundOf : Int32) (mroundFrom : Int32) (mouts : Int32) (nm : Nat) (mfromHour : Int32) (mtoHour : Int32) (ns : Nat) (mfrom : Int32) (mto : Int32) (msort : Int32) (misFault : Int32) (mdeep : Int32) (mcoded : Int32) (mlines : Int32) (nl : Nat) (nc : Nat) (nF : Nat) (np : Nat) (ntr : Nat) (nb : Nat) (mbestCost : Int32) (nso : Nat) (nsi : Nat) (nit : Nat) (nsh : Nat) (nsf : Nat) (nss : Nat) (nrc : Nat) (mtraced : Int32) (mdealer : Int32) (mnumber : Int32) (mwhose : Int32) (msize : Int32) (misParted : Int32) (fnw : Nat → Int32) (fnsh : Nat → Int32) (fnsf : Nat → Int32) (fnrc : Nat → Int32) (hN : NI fnw) : MI l G yX12_deal cX12_deal 8 (some .int) 60 0 0 [.ref h0, .int x1, .int x2, .int x3] [(h0, .inr (12, [.ref nw, .ref nk, .int mhasKept, .ref nt, .int mtaped, .ref nr, .int mrowMany, .int mroundOf, .int mroundFrom, .int mouts, .ref nm, .int mfromHour, .int mtoHour, .ref ns, .int mfrom, .int mto, .int msort, .int misFault, .int mdeep, .int mcoded, .int mlines, .ref nl, .ref nc, .ref nF, .ref np, .ref ntr, .ref nb, .int mbestCost, .ref nso, .ref nsi, .ref nit, .ref nsh, .ref nsf, .ref nss, .ref nrc, .int mtraced, .int mdealer, .int mnumber, .int mwhose, .int msize, .int misParted])), (nw, .inl (G.2.1, 1662, .inl fnw)), (nsh, .inl (G.2.1, 4, .inl fnsh)), (nsf, .inl (G.2.1, 4, .inl fnsf)), (nrc, .inl (G.2.1, 30, .inl fnrc))] (fun (r : Int32) (u : Nat × Int32 × Int32 × Int32 × Int32 × Int32 × (Nat → Int32)) => (True) ∧ (u.1 ≤ 30)) (fun u : Nat × Int32 × Int32 × Int32 × Int32 × Int32 × (Nat → Int32) => [(h0, .inr (12, [.ref nw, .ref nk, .int mhasKept, .ref nt, .int mtaped, .ref nr, .int mrowMany, .int mroundOf, .int mroundFrom, .int mouts, .ref nm, .int mfromHour, .int mtoHour, .ref ns, .int mfrom, .int mto, .int msort, .int misFault, .int mdeep, .int mcoded, .int mlines, .ref nl, .ref nc, .ref nF, .ref np, .ref ntr, .ref nb, .int mbestCost, .ref nso, .ref nsi, .ref nit, .ref nsh, .ref nsf, .ref nss, .ref nrc, .int (nI u.1), .int u.2.1, .int u.2.2.1, .int u.2.2.2.1, .int u.2.2.2.2.1, .int u.2.2.2.2.2.1])), (nw, .inl (G.2.1, 1662, .inl fnw)), (nsh, .inl (G.2.1, 4, .inl fnsh)), (nsf, .inl (G.2.1, 4, .inl fnsf)), (nrc, .inl (G.2.1, 30, .inl u.2.2.2.2.2.2))]) := by
  refine MI.start (by decide +kernel) (Nat.le_of_ble_eq_true rfl) ?_
  intro p e s m below meth c A ls hC hK hP hD hS hA hl
  have hl : lv_has ls 8 [(0, .ref h0), (1, .int x1), (2, .int x2), (3, .int x3)] := hl
  obtain ⟨hx, hb, hr, hml, hB, hown, hlocks, hnm⟩ := id hC
  refine lv_aload_n hx hb dX12_deal_0 rfl (lv_at hl 0 rfl) ?_
  refine lv_iconst (v := 0) hx hb dX12_deal_1 (by decide) ?_
  refine pf_X12_351 hC rfl hK hP hD hS 0 (ws' := [(h0, .inr (12, [.ref nw, .ref nk, .int mhasKept, .ref nt, .int mtaped, .ref nr, .int mrowMany, .int mroundOf, .int mroundFrom, .int mouts, .ref nm, .int mfromHour, .int mtoHour, .ref ns, .int mfrom, .int mto, .int msort, .int misFault, .int mdeep, .int mcoded, .int mlines, .ref nl, .ref nc, .ref nF, .ref np, .ref ntr, .ref nb, .int mbestCost, .ref nso, .ref nsi, .ref nit, .ref nsh, .ref nsf, .ref nss, .ref nrc, .int 0, .int mdealer, .int mnumber, .int mwhose, .int msize, .int misParted])), (nw, .inl (G.2.1, 1662, .inl fnw)), (nsh, .inl (G.2.1, 4, .inl fnsh)), (nsf, .inl (G.2.1, 4, .inl fnsf)), (nrc, .inl (G.2.1, 30, .inl fnrc))]) rfl (Nat.le_of_ble_eq_true rfl) rfl rfl rfl dX12_deal_2 (fun H locs hP hD hS => ?_)
  refine lv_iload_n hx hb dX12_deal_5 rfl (lv_at hl 1 rfl) ?_
  refine pS hC hK hl (m_isFour l G x1) si_X12_336 rfl rfl (Nat.le_of_ble_eq_true rfl) ⟨Nat.le_of_ble_eq_true rfl, Nat.le_of_ble_eq_true rfl⟩ ⟨by first | exact Nat.le_of_ble_eq_true rfl | exact Nat.zero_le _, by first | exact Nat.le_of_ble_eq_true rfl | exact Nat.zero_le _⟩ dX12_deal_6 (fun r6583 hr6583 => ?_)
  rcases hr6583 with ⟨rfl, a6584⟩ | ⟨rfl, a6584⟩
  · refine lv_if_eq (tgt := 19) hx hb dX12_deal_9 (by decide) (fun c9 => absurd c9 (by decide)) (fun _ => ?_)
    refine lv_iload_n hx hb dX12_deal_12 rfl (lv_at hl 2 rfl) ?_
    refine pS hC hK hl (m_isFour l G x2) si_X12_336 rfl rfl (Nat.le_of_ble_eq_true rfl) ⟨Nat.le_of_ble_eq_true rfl, Nat.le_of_ble_eq_true rfl⟩ ⟨by first | exact Nat.le_of_ble_eq_true rfl | exact Nat.zero_le _, by first | exact Nat.le_of_ble_eq_true rfl | exact Nat.zero_le _⟩ dX12_deal_13 (fun r6585 hr6585 => ?_)
    rcases hr6585 with ⟨rfl, a6586⟩ | ⟨rfl, a6586⟩
    · refine lv_if_ne (tgt := 23) hx hb dX12_deal_16 (by decide) (fun _ => ?_) (fun c9 => absurd c9 (by decide))
      obtain ⟨jt, hjt, rfl⟩ := Wi_nat (N := 3) (by decide) a6584
      refine lv_aload_n hx hb dX12_deal_23 rfl (lv_at hl 0 rfl) ?_
      refine lv_iload_n hx hb dX12_deal_24 rfl (lv_at hl 1 rfl) ?_
      refine pV hC hK hl hP hD (m_kindOn l G h0 jt nw nk mhasKept nt mtaped nr mrowMany mroundOf mroundFrom mouts nm mfromHour mtoHour ns mfrom mto msort misFault mdeep mcoded mlines nl nc nF np ntr nb mbestCost nso nsi nit nsh nsf nss nrc 0 mdealer mnumber mwhose msize misParted fnw fnsh fnsf (by omega) (hN)) si_X12_345 [0, 1, 2, 3] rfl rfl (by decide) rfl rfl rfl rfl rfl (Nat.le_of_ble_eq_true rfl) ⟨Nat.le_of_ble_eq_true rfl, Nat.le_of_ble_eq_true rfl⟩ ⟨by first | exact Nat.le_of_ble_eq_true rfl | exact Nat.zero_le _, by first | exact Nat.le_of_ble_eq_true rfl | exact Nat.zero_le _⟩ dX12_deal_25 (fun r6587 hr6587 => ?_)
      rcases hr6587 with rfl | ⟨rfl, a6588⟩ | ⟨rfl, a6588⟩ | ⟨rfl, a6588⟩ | ⟨rfl, a6588⟩ | ⟨rfl, a6588⟩ | ⟨rfl, a6588⟩
      · refine lv_istore (lv' := [(4, .int (-1)), (0, .ref h0), (1, .int (nI jt)), (2, .int x2), (3, .int x3)]) hx hb dX12_deal_28 hl (by decide) rfl (fun ls hl => ?_)
        refine lv_iload hx hb dX12_deal_30 (lv_at hl 0 rfl) ?_
        refine lv_if_ge (tgt := 37) hx hb dX12_deal_32 (by decide) (fun c9 => absurd c9 (by decide)) (fun _ => ?_)
        refine lv_iconst (v := 0) hx hb dX12_deal_35 (by decide) ?_
        exact RI (v := 0) hC hP hD hS [0, 1, 2, 3, 4] (0, mdealer, mnumber, mwhose, msize, misParted, fnrc) rfl rfl (by decide) (⟨trivial, by omega⟩) rfl dX12_deal_36
      · refine lv_istore (lv' := [(4, .int 1), (0, .ref h0), (1, .int (nI jt)), (2, .int x2), (3, .int x3)]) hx hb dX12_deal_28 hl (by decide) rfl (fun ls hl => ?_)
        refine lv_iload hx hb dX12_deal_30 (lv_at hl 0 rfl) ?_
        refine lv_if_ge (tgt := 37) hx hb dX12_deal_32 (by decide) (fun _ => ?_) (fun c9 => absurd (by decide) c9)
        refine lv_aload_n hx hb dX12_deal_37 rfl (lv_at hl 1 rfl) ?_
        refine lv_iload hx hb dX12_deal_38 (lv_at hl 0 rfl) ?_
        refine pf_X12_354 hC rfl hK hP hD hS 0 (ws' := [(h0, .inr (12, [.ref nw, .ref nk, .int mhasKept, .ref nt, .int mtaped, .ref nr, .int mrowMany, .int mroundOf, .int mroundFrom, .int mouts, .ref nm, .int mfromHour, .int mtoHour, .ref ns, .int mfrom, .int mto, .int msort, .int misFault, .int mdeep, .int mcoded, .int mlines, .ref nl, .ref nc, .ref nF, .ref np, .ref ntr, .ref nb, .int mbestCost, .ref nso, .ref nsi, .ref nit, .ref nsh, .ref nsf, .ref nss, .ref nrc, .int 0, .int 1, .int mnumber, .int mwhose, .int msize, .int misParted])), (nw, .inl (G.2.1, 1662, .inl fnw)), (nsh, .inl (G.2.1, 4, .inl fnsh)), (nsf, .inl (G.2.1, 4, .inl fnsf)), (nrc, .inl (G.2.1, 30, .inl fnrc))]) rfl (Nat.le_of_ble_eq_true rfl) rfl rfl rfl dX12_deal_40 (fun H locs hP hD hS => ?_)
        refine lv_aload_n hx hb dX12_deal_43 rfl (lv_at hl 1 rfl) ?_
        refine lv_aload_n hx hb dX12_deal_44 rfl (lv_at hl 1 rfl) ?_
        refine gf_X12_75 hC rfl hK hP 0 rfl rfl dX12_deal_45 ?_
        refine lv_iload_n hx hb dX12_deal_48 rfl (lv_at hl 2 rfl) ?_
        refine ald hC hK hP 3 rfl (vp_in_nI (by omega) (by omega)) (k := jt) (nI_clamp (by omega)) (v := fnsf jt) rfl dX12_deal_49 ?_
        refine lv_topi (fun x6589 ex6589 => ?_)
        obtain ⟨hko9, jno, hjno, ejno⟩ := a6588
        refine eqi (x1 := nI jno) (ex6589.trans ejno) ?_
        refine pf_X12_378 hC rfl hK hP hD hS 0 (ws' := [(h0, .inr (12, [.ref nw, .ref nk, .int mhasKept, .ref nt, .int mtaped, .ref nr, .int mrowMany, .int mroundOf, .int mroundFrom, .int mouts, .ref nm, .int mfromHour, .int mtoHour, .ref ns, .int mfrom, .int mto, .int msort, .int misFault, .int mdeep, .int mcoded, .int mlines, .ref nl, .ref nc, .ref nF, .ref np, .ref ntr, .ref nb, .int mbestCost, .ref nso, .ref nsi, .ref nit, .ref nsh, .ref nsf, .ref nss, .ref nrc, .int 0, .int 1, .int (nI jno), .int mwhose, .int msize, .int misParted])), (nw, .inl (G.2.1, 1662, .inl fnw)), (nsh, .inl (G.2.1, 4, .inl fnsh)), (nsf, .inl (G.2.1, 4, .inl fnsf)), (nrc, .inl (G.2.1, 30, .inl fnrc))]) rfl (Nat.le_of_ble_eq_true rfl) rfl rfl rfl dX12_deal_50 (fun H locs hP hD hS => ?_)
        refine lv_aload_n hx hb dX12_deal_53 rfl (lv_at hl 1 rfl) ?_
        refine gf_X12_72 hC rfl hK hP 0 rfl rfl dX12_deal_54 ?_
        refine lv_iload_n hx hb dX12_deal_57 rfl (lv_at hl 2 rfl) ?_
        refine ald hC hK hP 2 rfl (vp_in_nI (by omega) (by omega)) (k := jt) (nI_clamp (by omega)) (v := fnsh jt) rfl dX12_deal_58 ?_
        refine lv_topi (fun x6590 ex6590 => ?_)
        refine lv_iconst (v := 1) hx hb dX12_deal_59 (by decide) ?_
        refine lv_icmp_ne (tgt := 67) hx hb dX12_deal_60 (by decide) (fun c9 => absurd (ex6590.trans hko9) c9) (fun _ => ?_)
        refine lv_iconst (v := 1) hx hb dX12_deal_63 (by decide) ?_
        refine lv_goto (tgt := 68) hx hb dX12_deal_64 (by decide) ?_
        refine lv_istore (lv' := [(5, .int 1), (4, .int 1), (0, .ref h0), (1, .int (nI jt)), (2, .int x2), (3, .int x3)]) hx hb dX12_deal_68 hl (by decide) rfl (fun ls hl => ?_)
        refine lv_aload_n hx hb dX12_deal_70 rfl (lv_at hl 2 rfl) ?_
        refine gf_X12_72 hC rfl hK hP 0 rfl rfl dX12_deal_71 ?_
        refine lv_iload_n hx hb dX12_deal_74 rfl (lv_at hl 3 rfl) ?_
        refine ald hC hK hP 2 rfl (vp_in_nI (by omega) (by omega)) (k := jt) (nI_clamp (by omega)) (v := fnsh jt) rfl dX12_deal_75 ?_
        refine lv_topi (fun x6591 ex6591 => ?_)
        refine lv_iconst (v := 2) hx hb dX12_deal_76 (by decide) ?_
        refine lv_icmp_ne (tgt := 84) hx hb dX12_deal_77 (by decide) (fun _ => ?_) (fun c9 => absurd c9 (fun h9 => absurd (hko9.symm.trans ((ex6591.symm).trans h9)) (by decide)))
        refine lv_iconst (v := 0) hx hb dX12_deal_84 (by decide) ?_
        refine lv_istore (lv' := [(6, .int 0), (5, .int 1), (4, .int 1), (0, .ref h0), (1, .int (nI jt)), (2, .int x2), (3, .int x3)]) hx hb dX12_deal_85 hl (by decide) rfl (fun ls hl => ?_)
        refine lv_aload_n hx hb dX12_deal_87 rfl (lv_at hl 3 rfl) ?_
        refine lv_iload hx hb dX12_deal_88 (lv_at hl 1 rfl) ?_
        refine lv_if_eq (tgt := 105) hx hb dX12_deal_90 (by decide) (fun c9 => absurd c9 (by decide)) (fun _ => ?_)
        refine lv_aload_n hx hb dX12_deal_93 rfl (lv_at hl 3 rfl) ?_
        refine lv_aload_n hx hb dX12_deal_94 rfl (lv_at hl 3 rfl) ?_
        refine gf_X12_378 hC rfl hK hP 0 rfl rfl dX12_deal_95 ?_
        refine lv_iconst (v := 0) hx hb dX12_deal_98 (by decide) ?_
        refine pV hC hK hl hP hD (m_paper l G h0 jno 0 nw nk mhasKept nt mtaped nr mrowMany mroundOf mroundFrom mouts nm mfromHour mtoHour ns mfrom mto msort misFault mdeep mcoded mlines nl nc nF np ntr nb mbestCost nso nsi nit nsh nsf nss nrc 0 1 (nI jno) mwhose msize misParted fnw (by omega) (by omega)) si_X12_88 [0, 1] rfl rfl (by decide) rfl rfl rfl rfl rfl (Nat.le_of_ble_eq_true rfl) ⟨Nat.le_of_ble_eq_true rfl, Nat.le_of_ble_eq_true rfl⟩ ⟨by first | exact Nat.le_of_ble_eq_true rfl | exact Nat.zero_le _, by first | exact Nat.le_of_ble_eq_true rfl | exact Nat.zero_le _⟩ dX12_deal_99 (fun r6592 hr6592 => ?_)
        obtain rfl := hr6592
        refine lv_goto (tgt := 139) hx hb dX12_deal_102 (by decide) ?_
        refine pf_X12_375 hC rfl hK hP hD hS 0 (ws' := [(h0, .inr (12, [.ref nw, .ref nk, .int mhasKept, .ref nt, .int mtaped, .ref nr, .int mrowMany, .int mroundOf, .int mroundFrom, .int mouts, .ref nm, .int mfromHour, .int mtoHour, .ref ns, .int mfrom, .int mto, .int msort, .int misFault, .int mdeep, .int mcoded, .int mlines, .ref nl, .ref nc, .ref nF, .ref np, .ref ntr, .ref nb, .int mbestCost, .ref nso, .ref nsi, .ref nit, .ref nsh, .ref nsf, .ref nss, .ref nrc, .int 0, .int 1, .int (nI jno), .int (fnw (32 + 6 * jno + 0)), .int msize, .int misParted])), (nw, .inl (G.2.1, 1662, .inl fnw)), (nsh, .inl (G.2.1, 4, .inl fnsh)), (nsf, .inl (G.2.1, 4, .inl fnsf)), (nrc, .inl (G.2.1, 30, .inl fnrc))]) rfl (Nat.le_of_ble_eq_true rfl) rfl rfl rfl dX12_deal_139 (fun H locs hP hD hS => ?_)
        refine lv_aload_n hx hb dX12_deal_142 rfl (lv_at hl 3 rfl) ?_
        refine lv_iload hx hb dX12_deal_143 (lv_at hl 1 rfl) ?_
        refine lv_if_eq (tgt := 160) hx hb dX12_deal_145 (by decide) (fun c9 => absurd c9 (by decide)) (fun _ => ?_)
        refine lv_aload_n hx hb dX12_deal_148 rfl (lv_at hl 3 rfl) ?_
        refine lv_aload_n hx hb dX12_deal_149 rfl (lv_at hl 3 rfl) ?_
        refine gf_X12_378 hC rfl hK hP 0 rfl rfl dX12_deal_150 ?_
        refine lv_iconst (v := 2) hx hb dX12_deal_153 (by decide) ?_
        refine pV hC hK hl hP hD (m_paper l G h0 jno 2 nw nk mhasKept nt mtaped nr mrowMany mroundOf mroundFrom mouts nm mfromHour mtoHour ns mfrom mto msort misFault mdeep mcoded mlines nl nc nF np ntr nb mbestCost nso nsi nit nsh nsf nss nrc 0 1 (nI jno) (fnw (32 + 6 * jno + 0)) msize misParted fnw (by omega) (by omega)) si_X12_88 [0, 1] rfl rfl (by decide) rfl rfl rfl rfl rfl (Nat.le_of_ble_eq_true rfl) ⟨Nat.le_of_ble_eq_true rfl, Nat.le_of_ble_eq_true rfl⟩ ⟨by first | exact Nat.le_of_ble_eq_true rfl | exact Nat.zero_le _, by first | exact Nat.le_of_ble_eq_true rfl | exact Nat.zero_le _⟩ dX12_deal_154 (fun r6594 hr6594 => ?_)
        obtain rfl := hr6594
        refine lv_goto (tgt := 194) hx hb dX12_deal_157 (by decide) ?_
        refine pf_X12_369 hC rfl hK hP hD hS 0 (ws' := [(h0, .inr (12, [.ref nw, .ref nk, .int mhasKept, .ref nt, .int mtaped, .ref nr, .int mrowMany, .int mroundOf, .int mroundFrom, .int mouts, .ref nm, .int mfromHour, .int mtoHour, .ref ns, .int mfrom, .int mto, .int msort, .int misFault, .int mdeep, .int mcoded, .int mlines, .ref nl, .ref nc, .ref nF, .ref np, .ref ntr, .ref nb, .int mbestCost, .ref nso, .ref nsi, .ref nit, .ref nsh, .ref nsf, .ref nss, .ref nrc, .int 0, .int 1, .int (nI jno), .int (fnw (32 + 6 * jno + 0)), .int (fnw (32 + 6 * jno + 2)), .int misParted])), (nw, .inl (G.2.1, 1662, .inl fnw)), (nsh, .inl (G.2.1, 4, .inl fnsh)), (nsf, .inl (G.2.1, 4, .inl fnsf)), (nrc, .inl (G.2.1, 30, .inl fnrc))]) rfl (Nat.le_of_ble_eq_true rfl) rfl rfl rfl dX12_deal_194 (fun H locs hP hD hS => ?_)
        refine lv_aload_n hx hb dX12_deal_197 rfl (lv_at hl 3 rfl) ?_
        refine lv_iconst (v := 0) hx hb dX12_deal_198 (by decide) ?_
        refine pf_X12_380 hC rfl hK hP hD hS 0 (ws' := [(h0, .inr (12, [.ref nw, .ref nk, .int mhasKept, .ref nt, .int mtaped, .ref nr, .int mrowMany, .int mroundOf, .int mroundFrom, .int mouts, .ref nm, .int mfromHour, .int mtoHour, .ref ns, .int mfrom, .int mto, .int msort, .int misFault, .int mdeep, .int mcoded, .int mlines, .ref nl, .ref nc, .ref nF, .ref np, .ref ntr, .ref nb, .int mbestCost, .ref nso, .ref nsi, .ref nit, .ref nsh, .ref nsf, .ref nss, .ref nrc, .int 0, .int 1, .int (nI jno), .int (fnw (32 + 6 * jno + 0)), .int (fnw (32 + 6 * jno + 2)), .int 0])), (nw, .inl (G.2.1, 1662, .inl fnw)), (nsh, .inl (G.2.1, 4, .inl fnsh)), (nsf, .inl (G.2.1, 4, .inl fnsf)), (nrc, .inl (G.2.1, 30, .inl fnrc))]) rfl (Nat.le_of_ble_eq_true rfl) rfl (by decide +kernel) (by decide +kernel) dX12_deal_199 (fun H locs hP hD hS => ?_)
        obtain ⟨jdl, hjdl, rfl⟩ := Wi_nat (N := 3) (by decide) a6586
        rcases (show jdl = 0 ∨ jdl = 1 ∨ jdl = 2 ∨ jdl = 3 by omega) with rfl | rfl | rfl | rfl
        · refine lv_aload_n hx hb dX12_deal_202 rfl (lv_at hl 3 rfl) ?_
          refine lv_iload_n hx hb dX12_deal_203 rfl (lv_at hl 5 rfl) ?_
          refine lv_iload_n hx hb dX12_deal_204 rfl (lv_at hl 6 rfl) ?_
          refine iV (wr := [(nw, .inl (G.2.1, 1662, .inl fnw)), (nsh, .inl (G.2.1, 4, .inl fnsh)), (nsf, .inl (G.2.1, 4, .inl fnsf))]) hC hK hl hP hD hS hA (m_dealt0 l G h0 x3 nw nk mhasKept nt mtaped nr mrowMany mroundOf mroundFrom mouts nm mfromHour mtoHour ns mfrom mto msort misFault mdeep mcoded mlines nl nc nF np ntr nb mbestCost nso nsi nit nsh nsf nss nrc 0 1 (nI jno) (fnw (32 + 6 * jno + 0)) (fnw (32 + 6 * jno + 2)) 0 fnrc (by omega) (by omega)) si_X12_372 [0, 4] [1, 2, 3] rfl rfl (by decide) rfl (by decide) (by decide) rfl rfl rfl rfl rfl (Nat.le_of_ble_eq_true rfl) ⟨Nat.le_of_ble_eq_true rfl, Nat.le_of_ble_eq_true rfl⟩ ⟨Nat.le_of_ble_eq_true rfl, Nat.le_of_ble_eq_true rfl⟩ dX12_deal_205 (fun r6596 u6597 H locs hr6596 hP hD hS => ?_)
          obtain ⟨jr16598, ip16599, gtrc6600⟩ := u6597
          try dsimp only at hr6596
          have hP : va_P G.1 vwCl [(nw, .inl (G.2.1, 1662, .inl fnw)), (nsh, .inl (G.2.1, 4, .inl fnsh)), (nsf, .inl (G.2.1, 4, .inl fnsf)), (h0, .inr (12, [.ref nw, .ref nk, .int mhasKept, .ref nt, .int mtaped, .ref nr, .int mrowMany, .int mroundOf, .int mroundFrom, .int mouts, .ref nm, .int mfromHour, .int mtoHour, .ref ns, .int mfrom, .int mto, .int msort, .int misFault, .int mdeep, .int mcoded, .int mlines, .ref nl, .ref nc, .ref nF, .ref np, .ref ntr, .ref nb, .int mbestCost, .ref nso, .ref nsi, .ref nit, .ref nsh, .ref nsf, .ref nss, .ref nrc, .int (nI jr16598), .int 1, .int (nI jno), .int (fnw (32 + 6 * jno + 0)), .int (fnw (32 + 6 * jno + 2)), .int ip16599])), (nrc, .inl (G.2.1, 30, .inl gtrc6600))] H := hP
          have hD : va_D A [(nw, .inl (G.2.1, 1662, .inl fnw)), (nsh, .inl (G.2.1, 4, .inl fnsh)), (nsf, .inl (G.2.1, 4, .inl fnsf)), (h0, .inr (12, [.ref nw, .ref nk, .int mhasKept, .ref nt, .int mtaped, .ref nr, .int mrowMany, .int mroundOf, .int mroundFrom, .int mouts, .ref nm, .int mfromHour, .int mtoHour, .ref ns, .int mfrom, .int mto, .int msort, .int misFault, .int mdeep, .int mcoded, .int mlines, .ref nl, .ref nc, .ref nF, .ref np, .ref ntr, .ref nb, .int mbestCost, .ref nso, .ref nsi, .ref nit, .ref nsh, .ref nsf, .ref nss, .ref nrc, .int (nI jr16598), .int 1, .int (nI jno), .int (fnw (32 + 6 * jno + 0)), .int (fnw (32 + 6 * jno + 2)), .int ip16599])), (nrc, .inl (G.2.1, 30, .inl gtrc6600))] := hD
          obtain ⟨hr6596, w6601⟩ := hr6596
          refine lv_istore (lv' := [(7, .int r6596), (6, .int 0), (5, .int 1), (4, .int 1), (0, .ref h0), (1, .int (nI jt)), (2, .int 0), (3, .int x3)]) hx hb dX12_deal_208 hl (by decide) rfl (fun ls hl => ?_)
          refine lv_aload_n hx hb dX12_deal_210 rfl (lv_at hl 4 rfl) ?_
          refine gf_X12_380 hC rfl hK hP 3 rfl rfl dX12_deal_211 ?_
          refine lv_if_eq (tgt := 222) hx hb dX12_deal_214 (by decide) (fun c_214_6602 => ?_) (fun c_214_6602 => ?_)
          · refine lv_iload hx hb dX12_deal_222 (lv_at hl 0 rfl) ?_
            exact RI (v := r6596) hC hP hD hS [3, 0, 1, 2, 4] (jr16598, 1, nI jno, fnw (32 + 6 * jno + 0), fnw (32 + 6 * jno + 2), ip16599, gtrc6600) rfl rfl (by decide) (⟨trivial, by omega⟩) rfl dX12_deal_224
          · refine lv_bipush (v := (-15)) hx hb dX12_deal_217 (by decide) ?_
            refine lv_goto (tgt := 224) hx hb dX12_deal_219 (by decide) ?_
            exact RI (v := (-15)) hC hP hD hS [3, 0, 1, 2, 4] (jr16598, 1, nI jno, fnw (32 + 6 * jno + 0), fnw (32 + 6 * jno + 2), ip16599, gtrc6600) rfl rfl (by decide) (⟨trivial, by omega⟩) rfl dX12_deal_224
        · refine lv_aload_n hx hb dX12_deal_202 rfl (lv_at hl 3 rfl) ?_
          refine lv_iload_n hx hb dX12_deal_203 rfl (lv_at hl 5 rfl) ?_
          refine lv_iload_n hx hb dX12_deal_204 rfl (lv_at hl 6 rfl) ?_
          refine iV (wr := [(nw, .inl (G.2.1, 1662, .inl fnw)), (nsh, .inl (G.2.1, 4, .inl fnsh)), (nsf, .inl (G.2.1, 4, .inl fnsf))]) hC hK hl hP hD hS hA (m_dealt1 l G h0 x3 nw nk mhasKept nt mtaped nr mrowMany mroundOf mroundFrom mouts nm mfromHour mtoHour ns mfrom mto msort misFault mdeep mcoded mlines nl nc nF np ntr nb mbestCost nso nsi nit nsh nsf nss nrc 0 1 (nI jno) (fnw (32 + 6 * jno + 0)) (fnw (32 + 6 * jno + 2)) 0 fnrc (by omega) (by omega)) si_X12_372 [0, 4] [1, 2, 3] rfl rfl (by decide) rfl (by decide) (by decide) rfl rfl rfl rfl rfl (Nat.le_of_ble_eq_true rfl) ⟨Nat.le_of_ble_eq_true rfl, Nat.le_of_ble_eq_true rfl⟩ ⟨Nat.le_of_ble_eq_true rfl, Nat.le_of_ble_eq_true rfl⟩ dX12_deal_205 (fun r6603 u6604 H locs hr6603 hP hD hS => ?_)
          obtain ⟨jr16605, ip16606, gtrc6607⟩ := u6604
          try dsimp only at hr6603
          have hP : va_P G.1 vwCl [(nw, .inl (G.2.1, 1662, .inl fnw)), (nsh, .inl (G.2.1, 4, .inl fnsh)), (nsf, .inl (G.2.1, 4, .inl fnsf)), (h0, .inr (12, [.ref nw, .ref nk, .int mhasKept, .ref nt, .int mtaped, .ref nr, .int mrowMany, .int mroundOf, .int mroundFrom, .int mouts, .ref nm, .int mfromHour, .int mtoHour, .ref ns, .int mfrom, .int mto, .int msort, .int misFault, .int mdeep, .int mcoded, .int mlines, .ref nl, .ref nc, .ref nF, .ref np, .ref ntr, .ref nb, .int mbestCost, .ref nso, .ref nsi, .ref nit, .ref nsh, .ref nsf, .ref nss, .ref nrc, .int (nI jr16605), .int 1, .int (nI jno), .int (fnw (32 + 6 * jno + 0)), .int (fnw (32 + 6 * jno + 2)), .int ip16606])), (nrc, .inl (G.2.1, 30, .inl gtrc6607))] H := hP
          have hD : va_D A [(nw, .inl (G.2.1, 1662, .inl fnw)), (nsh, .inl (G.2.1, 4, .inl fnsh)), (nsf, .inl (G.2.1, 4, .inl fnsf)), (h0, .inr (12, [.ref nw, .ref nk, .int mhasKept, .ref nt, .int mtaped, .ref nr, .int mrowMany, .int mroundOf, .int mroundFrom, .int mouts, .ref nm, .int mfromHour, .int mtoHour, .ref ns, .int mfrom, .int mto, .int msort, .int misFault, .int mdeep, .int mcoded, .int mlines, .ref nl, .ref nc, .ref nF, .ref np, .ref ntr, .ref nb, .int mbestCost, .ref nso, .ref nsi, .ref nit, .ref nsh, .ref nsf, .ref nss, .ref nrc, .int (nI jr16605), .int 1, .int (nI jno), .int (fnw (32 + 6 * jno + 0)), .int (fnw (32 + 6 * jno + 2)), .int ip16606])), (nrc, .inl (G.2.1, 30, .inl gtrc6607))] := hD
          obtain ⟨hr6603, w6608⟩ := hr6603
          refine lv_istore (lv' := [(7, .int r6603), (6, .int 0), (5, .int 1), (4, .int 1), (0, .ref h0), (1, .int (nI jt)), (2, .int 1), (3, .int x3)]) hx hb dX12_deal_208 hl (by decide) rfl (fun ls hl => ?_)
          refine lv_aload_n hx hb dX12_deal_210 rfl (lv_at hl 4 rfl) ?_
          refine gf_X12_380 hC rfl hK hP 3 rfl rfl dX12_deal_211 ?_
          refine lv_if_eq (tgt := 222) hx hb dX12_deal_214 (by decide) (fun c_214_6609 => ?_) (fun c_214_6609 => ?_)
          · refine lv_iload hx hb dX12_deal_222 (lv_at hl 0 rfl) ?_
            exact RI (v := r6603) hC hP hD hS [3, 0, 1, 2, 4] (jr16605, 1, nI jno, fnw (32 + 6 * jno + 0), fnw (32 + 6 * jno + 2), ip16606, gtrc6607) rfl rfl (by decide) (⟨trivial, by omega⟩) rfl dX12_deal_224
          · refine lv_bipush (v := (-15)) hx hb dX12_deal_217 (by decide) ?_
            refine lv_goto (tgt := 224) hx hb dX12_deal_219 (by decide) ?_
            exact RI (v := (-15)) hC hP hD hS [3, 0, 1, 2, 4] (jr16605, 1, nI jno, fnw (32 + 6 * jno + 0), fnw (32 + 6 * jno + 2), ip16606, gtrc6607) rfl rfl (by decide) (⟨trivial, by omega⟩) rfl dX12_deal_224
        · refine lv_aload_n hx hb dX12_deal_202 rfl (lv_at hl 3 rfl) ?_
          refine lv_iload_n hx hb dX12_deal_203 rfl (lv_at hl 5 rfl) ?_
          refine lv_iload_n hx hb dX12_deal_204 rfl (lv_at hl 6 rfl) ?_
          refine iV (wr := [(nw, .inl (G.2.1, 1662, .inl fnw)), (nsh, .inl (G.2.1, 4, .inl fnsh)), (nsf, .inl (G.2.1, 4, .inl fnsf))]) hC hK hl hP hD hS hA (m_dealt2 l G h0 x3 nw nk mhasKept nt mtaped nr mrowMany mroundOf mroundFrom mouts nm mfromHour mtoHour ns mfrom mto msort misFault mdeep mcoded mlines nl nc nF np ntr nb mbestCost nso nsi nit nsh nsf nss nrc 0 1 (nI jno) (fnw (32 + 6 * jno + 0)) (fnw (32 + 6 * jno + 2)) 0 fnrc (by omega) (by omega)) si_X12_372 [0, 4] [1, 2, 3] rfl rfl (by decide) rfl (by decide) (by decide) rfl rfl rfl rfl rfl (Nat.le_of_ble_eq_true rfl) ⟨Nat.le_of_ble_eq_true rfl, Nat.le_of_ble_eq_true rfl⟩ ⟨Nat.le_of_ble_eq_true rfl, Nat.le_of_ble_eq_true rfl⟩ dX12_deal_205 (fun r6610 u6611 H locs hr6610 hP hD hS => ?_)
          obtain ⟨jr16612, ip16613, gtrc6614⟩ := u6611
          try dsimp only at hr6610
          have hP : va_P G.1 vwCl [(nw, .inl (G.2.1, 1662, .inl fnw)), (nsh, .inl (G.2.1, 4, .inl fnsh)), (nsf, .inl (G.2.1, 4, .inl fnsf)), (h0, .inr (12, [.ref nw, .ref nk, .int mhasKept, .ref nt, .int mtaped, .ref nr, .int mrowMany, .int mroundOf, .int mroundFrom, .int mouts, .ref nm, .int mfromHour, .int mtoHour, .ref ns, .int mfrom, .int mto, .int msort, .int misFault, .int mdeep, .int mcoded, .int mlines, .ref nl, .ref nc, .ref nF, .ref np, .ref ntr, .ref nb, .int mbestCost, .ref nso, .ref nsi, .ref nit, .ref nsh, .ref nsf, .ref nss, .ref nrc, .int (nI jr16612), .int 1, .int (nI jno), .int (fnw (32 + 6 * jno + 0)), .int (fnw (32 + 6 * jno + 2)), .int ip16613])), (nrc, .inl (G.2.1, 30, .inl gtrc6614))] H := hP
          have hD : va_D A [(nw, .inl (G.2.1, 1662, .inl fnw)), (nsh, .inl (G.2.1, 4, .inl fnsh)), (nsf, .inl (G.2.1, 4, .inl fnsf)), (h0, .inr (12, [.ref nw, .ref nk, .int mhasKept, .ref nt, .int mtaped, .ref nr, .int mrowMany, .int mroundOf, .int mroundFrom, .int mouts, .ref nm, .int mfromHour, .int mtoHour, .ref ns, .int mfrom, .int mto, .int msort, .int misFault, .int mdeep, .int mcoded, .int mlines, .ref nl, .ref nc, .ref nF, .ref np, .ref ntr, .ref nb, .int mbestCost, .ref nso, .ref nsi, .ref nit, .ref nsh, .ref nsf, .ref nss, .ref nrc, .int (nI jr16612), .int 1, .int (nI jno), .int (fnw (32 + 6 * jno + 0)), .int (fnw (32 + 6 * jno + 2)), .int ip16613])), (nrc, .inl (G.2.1, 30, .inl gtrc6614))] := hD
          obtain ⟨hr6610, w6615⟩ := hr6610
          refine lv_istore (lv' := [(7, .int r6610), (6, .int 0), (5, .int 1), (4, .int 1), (0, .ref h0), (1, .int (nI jt)), (2, .int 2), (3, .int x3)]) hx hb dX12_deal_208 hl (by decide) rfl (fun ls hl => ?_)
          refine lv_aload_n hx hb dX12_deal_210 rfl (lv_at hl 4 rfl) ?_
          refine gf_X12_380 hC rfl hK hP 3 rfl rfl dX12_deal_211 ?_
          refine lv_if_eq (tgt := 222) hx hb dX12_deal_214 (by decide) (fun c_214_6616 => ?_) (fun c_214_6616 => ?_)
          · refine lv_iload hx hb dX12_deal_222 (lv_at hl 0 rfl) ?_
            exact RI (v := r6610) hC hP hD hS [3, 0, 1, 2, 4] (jr16612, 1, nI jno, fnw (32 + 6 * jno + 0), fnw (32 + 6 * jno + 2), ip16613, gtrc6614) rfl rfl (by decide) (⟨trivial, by omega⟩) rfl dX12_deal_224
          · refine lv_bipush (v := (-15)) hx hb dX12_deal_217 (by decide) ?_
            refine lv_goto (tgt := 224) hx hb dX12_deal_219 (by decide) ?_
            exact RI (v := (-15)) hC hP hD hS [3, 0, 1, 2, 4] (jr16612, 1, nI jno, fnw (32 + 6 * jno + 0), fnw (32 + 6 * jno + 2), ip16613, gtrc6614) rfl rfl (by decide) (⟨trivial, by omega⟩) rfl dX12_deal_224
        · refine lv_aload_n hx hb dX12_deal_202 rfl (lv_at hl 3 rfl) ?_
          refine lv_iload_n hx hb dX12_deal_203 rfl (lv_at hl 5 rfl) ?_
          refine lv_iload_n hx hb dX12_deal_204 rfl (lv_at hl 6 rfl) ?_
          refine iV (wr := [(nw, .inl (G.2.1, 1662, .inl fnw)), (nsh, .inl (G.2.1, 4, .inl fnsh)), (nsf, .inl (G.2.1, 4, .inl fnsf))]) hC hK hl hP hD hS hA (m_dealt3 l G h0 x3 nw nk mhasKept nt mtaped nr mrowMany mroundOf mroundFrom mouts nm mfromHour mtoHour ns mfrom mto msort misFault mdeep mcoded mlines nl nc nF np ntr nb mbestCost nso nsi nit nsh nsf nss nrc 0 1 (nI jno) (fnw (32 + 6 * jno + 0)) (fnw (32 + 6 * jno + 2)) 0 fnrc (by omega) (by omega)) si_X12_372 [0, 4] [1, 2, 3] rfl rfl (by decide) rfl (by decide) (by decide) rfl rfl rfl rfl rfl (Nat.le_of_ble_eq_true rfl) ⟨Nat.le_of_ble_eq_true rfl, Nat.le_of_ble_eq_true rfl⟩ ⟨Nat.le_of_ble_eq_true rfl, Nat.le_of_ble_eq_true rfl⟩ dX12_deal_205 (fun r6617 u6618 H locs hr6617 hP hD hS => ?_)
          obtain ⟨jr16619, ip16620, gtrc6621⟩ := u6618
          try dsimp only at hr6617
          have hP : va_P G.1 vwCl [(nw, .inl (G.2.1, 1662, .inl fnw)), (nsh, .inl (G.2.1, 4, .inl fnsh)), (nsf, .inl (G.2.1, 4, .inl fnsf)), (h0, .inr (12, [.ref nw, .ref nk, .int mhasKept, .ref nt, .int mtaped, .ref nr, .int mrowMany, .int mroundOf, .int mroundFrom, .int mouts, .ref nm, .int mfromHour, .int mtoHour, .ref ns, .int mfrom, .int mto, .int msort, .int misFault, .int mdeep, .int mcoded, .int mlines, .ref nl, .ref nc, .ref nF, .ref np, .ref ntr, .ref nb, .int mbestCost, .ref nso, .ref nsi, .ref nit, .ref nsh, .ref nsf, .ref nss, .ref nrc, .int (nI jr16619), .int 1, .int (nI jno), .int (fnw (32 + 6 * jno + 0)), .int (fnw (32 + 6 * jno + 2)), .int ip16620])), (nrc, .inl (G.2.1, 30, .inl gtrc6621))] H := hP
          have hD : va_D A [(nw, .inl (G.2.1, 1662, .inl fnw)), (nsh, .inl (G.2.1, 4, .inl fnsh)), (nsf, .inl (G.2.1, 4, .inl fnsf)), (h0, .inr (12, [.ref nw, .ref nk, .int mhasKept, .ref nt, .int mtaped, .ref nr, .int mrowMany, .int mroundOf, .int mroundFrom, .int mouts, .ref nm, .int mfromHour, .int mtoHour, .ref ns, .int mfrom, .int mto, .int msort, .int misFault, .int mdeep, .int mcoded, .int mlines, .ref nl, .ref nc, .ref nF, .ref np, .ref ntr, .ref nb, .int mbestCost, .ref nso, .ref nsi, .ref nit, .ref nsh, .ref nsf, .ref nss, .ref nrc, .int (nI jr16619), .int 1, .int (nI jno), .int (fnw (32 + 6 * jno + 0)), .int (fnw (32 + 6 * jno + 2)), .int ip16620])), (nrc, .inl (G.2.1, 30, .inl gtrc6621))] := hD
          obtain ⟨hr6617, w6622⟩ := hr6617
          refine lv_istore (lv' := [(7, .int r6617), (6, .int 0), (5, .int 1), (4, .int 1), (0, .ref h0), (1, .int (nI jt)), (2, .int 3), (3, .int x3)]) hx hb dX12_deal_208 hl (by decide) rfl (fun ls hl => ?_)
          refine lv_aload_n hx hb dX12_deal_210 rfl (lv_at hl 4 rfl) ?_
          refine gf_X12_380 hC rfl hK hP 3 rfl rfl dX12_deal_211 ?_
          refine lv_if_eq (tgt := 222) hx hb dX12_deal_214 (by decide) (fun c_214_6623 => ?_) (fun c_214_6623 => ?_)
          · refine lv_iload hx hb dX12_deal_222 (lv_at hl 0 rfl) ?_
            exact RI (v := r6617) hC hP hD hS [3, 0, 1, 2, 4] (jr16619, 1, nI jno, fnw (32 + 6 * jno + 0), fnw (32 + 6 * jno + 2), ip16620, gtrc6621) rfl rfl (by decide) (⟨trivial, by omega⟩) rfl dX12_deal_224
          · refine lv_bipush (v := (-15)) hx hb dX12_deal_217 (by decide) ?_
            refine lv_goto (tgt := 224) hx hb dX12_deal_219 (by decide) ?_
            exact RI (v := (-15)) hC hP hD hS [3, 0, 1, 2, 4] (jr16619, 1, nI jno, fnw (32 + 6 * jno + 0), fnw (32 + 6 * jno + 2), ip16620, gtrc6621) rfl rfl (by decide) (⟨trivial, by omega⟩) rfl dX12_deal_224
      · refine lv_istore (lv' := [(4, .int 2), (0, .ref h0), (1, .int (nI jt)), (2, .int x2), (3, .int x3)]) hx hb dX12_deal_28 hl (by decide) rfl (fun ls hl => ?_)
        refine lv_iload hx hb dX12_deal_30 (lv_at hl 0 rfl) ?_
        refine lv_if_ge (tgt := 37) hx hb dX12_deal_32 (by decide) (fun _ => ?_) (fun c9 => absurd (by decide) c9)
        refine lv_aload_n hx hb dX12_deal_37 rfl (lv_at hl 1 rfl) ?_
        refine lv_iload hx hb dX12_deal_38 (lv_at hl 0 rfl) ?_
        refine pf_X12_354 hC rfl hK hP hD hS 0 (ws' := [(h0, .inr (12, [.ref nw, .ref nk, .int mhasKept, .ref nt, .int mtaped, .ref nr, .int mrowMany, .int mroundOf, .int mroundFrom, .int mouts, .ref nm, .int mfromHour, .int mtoHour, .ref ns, .int mfrom, .int mto, .int msort, .int misFault, .int mdeep, .int mcoded, .int mlines, .ref nl, .ref nc, .ref nF, .ref np, .ref ntr, .ref nb, .int mbestCost, .ref nso, .ref nsi, .ref nit, .ref nsh, .ref nsf, .ref nss, .ref nrc, .int 0, .int 2, .int mnumber, .int mwhose, .int msize, .int misParted])), (nw, .inl (G.2.1, 1662, .inl fnw)), (nsh, .inl (G.2.1, 4, .inl fnsh)), (nsf, .inl (G.2.1, 4, .inl fnsf)), (nrc, .inl (G.2.1, 30, .inl fnrc))]) rfl (Nat.le_of_ble_eq_true rfl) rfl rfl rfl dX12_deal_40 (fun H locs hP hD hS => ?_)
        refine lv_aload_n hx hb dX12_deal_43 rfl (lv_at hl 1 rfl) ?_
        refine lv_aload_n hx hb dX12_deal_44 rfl (lv_at hl 1 rfl) ?_
        refine gf_X12_75 hC rfl hK hP 0 rfl rfl dX12_deal_45 ?_
        refine lv_iload_n hx hb dX12_deal_48 rfl (lv_at hl 2 rfl) ?_
        refine ald hC hK hP 3 rfl (vp_in_nI (by omega) (by omega)) (k := jt) (nI_clamp (by omega)) (v := fnsf jt) rfl dX12_deal_49 ?_
        refine lv_topi (fun x6624 ex6624 => ?_)
        obtain ⟨hko9, jno, hjno, ejno⟩ := a6588
        refine eqi (x1 := nI jno) (ex6624.trans ejno) ?_
        refine pf_X12_378 hC rfl hK hP hD hS 0 (ws' := [(h0, .inr (12, [.ref nw, .ref nk, .int mhasKept, .ref nt, .int mtaped, .ref nr, .int mrowMany, .int mroundOf, .int mroundFrom, .int mouts, .ref nm, .int mfromHour, .int mtoHour, .ref ns, .int mfrom, .int mto, .int msort, .int misFault, .int mdeep, .int mcoded, .int mlines, .ref nl, .ref nc, .ref nF, .ref np, .ref ntr, .ref nb, .int mbestCost, .ref nso, .ref nsi, .ref nit, .ref nsh, .ref nsf, .ref nss, .ref nrc, .int 0, .int 2, .int (nI jno), .int mwhose, .int msize, .int misParted])), (nw, .inl (G.2.1, 1662, .inl fnw)), (nsh, .inl (G.2.1, 4, .inl fnsh)), (nsf, .inl (G.2.1, 4, .inl fnsf)), (nrc, .inl (G.2.1, 30, .inl fnrc))]) rfl (Nat.le_of_ble_eq_true rfl) rfl rfl rfl dX12_deal_50 (fun H locs hP hD hS => ?_)
        refine lv_aload_n hx hb dX12_deal_53 rfl (lv_at hl 1 rfl) ?_
        refine gf_X12_72 hC rfl hK hP 0 rfl rfl dX12_deal_54 ?_
        refine lv_iload_n hx hb dX12_deal_57 rfl (lv_at hl 2 rfl) ?_
        refine ald hC hK hP 2 rfl (vp_in_nI (by omega) (by omega)) (k := jt) (nI_clamp (by omega)) (v := fnsh jt) rfl dX12_deal_58 ?_
        refine lv_topi (fun x6625 ex6625 => ?_)
        refine lv_iconst (v := 1) hx hb dX12_deal_59 (by decide) ?_
        refine lv_icmp_ne (tgt := 67) hx hb dX12_deal_60 (by decide) (fun c9 => absurd (ex6625.trans hko9) c9) (fun _ => ?_)
        refine lv_iconst (v := 1) hx hb dX12_deal_63 (by decide) ?_
        refine lv_goto (tgt := 68) hx hb dX12_deal_64 (by decide) ?_
        refine lv_istore (lv' := [(5, .int 1), (4, .int 2), (0, .ref h0), (1, .int (nI jt)), (2, .int x2), (3, .int x3)]) hx hb dX12_deal_68 hl (by decide) rfl (fun ls hl => ?_)
        refine lv_aload_n hx hb dX12_deal_70 rfl (lv_at hl 2 rfl) ?_
        refine gf_X12_72 hC rfl hK hP 0 rfl rfl dX12_deal_71 ?_
        refine lv_iload_n hx hb dX12_deal_74 rfl (lv_at hl 3 rfl) ?_
        refine ald hC hK hP 2 rfl (vp_in_nI (by omega) (by omega)) (k := jt) (nI_clamp (by omega)) (v := fnsh jt) rfl dX12_deal_75 ?_
        refine lv_topi (fun x6626 ex6626 => ?_)
        refine lv_iconst (v := 2) hx hb dX12_deal_76 (by decide) ?_
        refine lv_icmp_ne (tgt := 84) hx hb dX12_deal_77 (by decide) (fun _ => ?_) (fun c9 => absurd c9 (fun h9 => absurd (hko9.symm.trans ((ex6626.symm).trans h9)) (by decide)))
        refine lv_iconst (v := 0) hx hb dX12_deal_84 (by decide) ?_
        refine lv_istore (lv' := [(6, .int 0), (5, .int 1), (4, .int 2), (0, .ref h0), (1, .int (nI jt)), (2, .int x2), (3, .int x3)]) hx hb dX12_deal_85 hl (by decide) rfl (fun ls hl => ?_)
        refine lv_aload_n hx hb dX12_deal_87 rfl (lv_at hl 3 rfl) ?_
        refine lv_iload hx hb dX12_deal_88 (lv_at hl 1 rfl) ?_
        refine lv_if_eq (tgt := 105) hx hb dX12_deal_90 (by decide) (fun c9 => absurd c9 (by decide)) (fun _ => ?_)
        refine lv_aload_n hx hb dX12_deal_93 rfl (lv_at hl 3 rfl) ?_
        refine lv_aload_n hx hb dX12_deal_94 rfl (lv_at hl 3 rfl) ?_
        refine gf_X12_378 hC rfl hK hP 0 rfl rfl dX12_deal_95 ?_
        refine lv_iconst (v := 0) hx hb dX12_deal_98 (by decide) ?_
        refine pV hC hK hl hP hD (m_paper l G h0 jno 0 nw nk mhasKept nt mtaped nr mrowMany mroundOf mroundFrom mouts nm mfromHour mtoHour ns mfrom mto msort misFault mdeep mcoded mlines nl nc nF np ntr nb mbestCost nso nsi nit nsh nsf nss nrc 0 2 (nI jno) mwhose msize misParted fnw (by omega) (by omega)) si_X12_88 [0, 1] rfl rfl (by decide) rfl rfl rfl rfl rfl (Nat.le_of_ble_eq_true rfl) ⟨Nat.le_of_ble_eq_true rfl, Nat.le_of_ble_eq_true rfl⟩ ⟨by first | exact Nat.le_of_ble_eq_true rfl | exact Nat.zero_le _, by first | exact Nat.le_of_ble_eq_true rfl | exact Nat.zero_le _⟩ dX12_deal_99 (fun r6627 hr6627 => ?_)
        obtain rfl := hr6627
        refine lv_goto (tgt := 139) hx hb dX12_deal_102 (by decide) ?_
        refine pf_X12_375 hC rfl hK hP hD hS 0 (ws' := [(h0, .inr (12, [.ref nw, .ref nk, .int mhasKept, .ref nt, .int mtaped, .ref nr, .int mrowMany, .int mroundOf, .int mroundFrom, .int mouts, .ref nm, .int mfromHour, .int mtoHour, .ref ns, .int mfrom, .int mto, .int msort, .int misFault, .int mdeep, .int mcoded, .int mlines, .ref nl, .ref nc, .ref nF, .ref np, .ref ntr, .ref nb, .int mbestCost, .ref nso, .ref nsi, .ref nit, .ref nsh, .ref nsf, .ref nss, .ref nrc, .int 0, .int 2, .int (nI jno), .int (fnw (32 + 6 * jno + 0)), .int msize, .int misParted])), (nw, .inl (G.2.1, 1662, .inl fnw)), (nsh, .inl (G.2.1, 4, .inl fnsh)), (nsf, .inl (G.2.1, 4, .inl fnsf)), (nrc, .inl (G.2.1, 30, .inl fnrc))]) rfl (Nat.le_of_ble_eq_true rfl) rfl rfl rfl dX12_deal_139 (fun H locs hP hD hS => ?_)
        refine lv_aload_n hx hb dX12_deal_142 rfl (lv_at hl 3 rfl) ?_
        refine lv_iload hx hb dX12_deal_143 (lv_at hl 1 rfl) ?_
        refine lv_if_eq (tgt := 160) hx hb dX12_deal_145 (by decide) (fun c9 => absurd c9 (by decide)) (fun _ => ?_)
        refine lv_aload_n hx hb dX12_deal_148 rfl (lv_at hl 3 rfl) ?_
        refine lv_aload_n hx hb dX12_deal_149 rfl (lv_at hl 3 rfl) ?_
        refine gf_X12_378 hC rfl hK hP 0 rfl rfl dX12_deal_150 ?_
        refine lv_iconst (v := 2) hx hb dX12_deal_153 (by decide) ?_
        refine pV hC hK hl hP hD (m_paper l G h0 jno 2 nw nk mhasKept nt mtaped nr mrowMany mroundOf mroundFrom mouts nm mfromHour mtoHour ns mfrom mto msort misFault mdeep mcoded mlines nl nc nF np ntr nb mbestCost nso nsi nit nsh nsf nss nrc 0 2 (nI jno) (fnw (32 + 6 * jno + 0)) msize misParted fnw (by omega) (by omega)) si_X12_88 [0, 1] rfl rfl (by decide) rfl rfl rfl rfl rfl (Nat.le_of_ble_eq_true rfl) ⟨Nat.le_of_ble_eq_true rfl, Nat.le_of_ble_eq_true rfl⟩ ⟨by first | exact Nat.le_of_ble_eq_true rfl | exact Nat.zero_le _, by first | exact Nat.le_of_ble_eq_true rfl | exact Nat.zero_le _⟩ dX12_deal_154 (fun r6629 hr6629 => ?_)
        obtain rfl := hr6629
        refine lv_goto (tgt := 194) hx hb dX12_deal_157 (by decide) ?_
        refine pf_X12_369 hC rfl hK hP hD hS 0 (ws' := [(h0, .inr (12, [.ref nw, .ref nk, .int mhasKept, .ref nt, .int mtaped, .ref nr, .int mrowMany, .int mroundOf, .int mroundFrom, .int mouts, .ref nm, .int mfromHour, .int mtoHour, .ref ns, .int mfrom, .int mto, .int msort, .int misFault, .int mdeep, .int mcoded, .int mlines, .ref nl, .ref nc, .ref nF, .ref np, .ref ntr, .ref nb, .int mbestCost, .ref nso, .ref nsi, .ref nit, .ref nsh, .ref nsf, .ref nss, .ref nrc, .int 0, .int 2, .int (nI jno), .int (fnw (32 + 6 * jno + 0)), .int (fnw (32 + 6 * jno + 2)), .int misParted])), (nw, .inl (G.2.1, 1662, .inl fnw)), (nsh, .inl (G.2.1, 4, .inl fnsh)), (nsf, .inl (G.2.1, 4, .inl fnsf)), (nrc, .inl (G.2.1, 30, .inl fnrc))]) rfl (Nat.le_of_ble_eq_true rfl) rfl rfl rfl dX12_deal_194 (fun H locs hP hD hS => ?_)
        refine lv_aload_n hx hb dX12_deal_197 rfl (lv_at hl 3 rfl) ?_
        refine lv_iconst (v := 0) hx hb dX12_deal_198 (by decide) ?_
        refine pf_X12_380 hC rfl hK hP hD hS 0 (ws' := [(h0, .inr (12, [.ref nw, .ref nk, .int mhasKept, .ref nt, .int mtaped, .ref nr, .int mrowMany, .int mroundOf, .int mroundFrom, .int mouts, .ref nm, .int mfromHour, .int mtoHour, .ref ns, .int mfrom, .int mto, .int msort, .int misFault, .int mdeep, .int mcoded, .int mlines, .ref nl, .ref nc, .ref nF, .ref np, .ref ntr, .ref nb, .int mbestCost, .ref nso, .ref nsi, .ref nit, .ref nsh, .ref nsf, .ref nss, .ref nrc, .int 0, .int 2, .int (nI jno), .int (fnw (32 + 6 * jno + 0)), .int (fnw (32 + 6 * jno + 2)), .int 0])), (nw, .inl (G.2.1, 1662, .inl fnw)), (nsh, .inl (G.2.1, 4, .inl fnsh)), (nsf, .inl (G.2.1, 4, .inl fnsf)), (nrc, .inl (G.2.1, 30, .inl fnrc))]) rfl (Nat.le_of_ble_eq_true rfl) rfl (by decide +kernel) (by decide +kernel) dX12_deal_199 (fun H locs hP hD hS => ?_)
        obtain ⟨jdl, hjdl, rfl⟩ := Wi_nat (N := 3) (by decide) a6586
        rcases (show jdl = 0 ∨ jdl = 1 ∨ jdl = 2 ∨ jdl = 3 by omega) with rfl | rfl | rfl | rfl
        · refine lv_aload_n hx hb dX12_deal_202 rfl (lv_at hl 3 rfl) ?_
          refine lv_iload_n hx hb dX12_deal_203 rfl (lv_at hl 5 rfl) ?_
          refine lv_iload_n hx hb dX12_deal_204 rfl (lv_at hl 6 rfl) ?_
          refine iV (wr := [(nw, .inl (G.2.1, 1662, .inl fnw)), (nsh, .inl (G.2.1, 4, .inl fnsh)), (nsf, .inl (G.2.1, 4, .inl fnsf))]) hC hK hl hP hD hS hA (m_dealt0 l G h0 x3 nw nk mhasKept nt mtaped nr mrowMany mroundOf mroundFrom mouts nm mfromHour mtoHour ns mfrom mto msort misFault mdeep mcoded mlines nl nc nF np ntr nb mbestCost nso nsi nit nsh nsf nss nrc 0 2 (nI jno) (fnw (32 + 6 * jno + 0)) (fnw (32 + 6 * jno + 2)) 0 fnrc (by omega) (by omega)) si_X12_372 [0, 4] [1, 2, 3] rfl rfl (by decide) rfl (by decide) (by decide) rfl rfl rfl rfl rfl (Nat.le_of_ble_eq_true rfl) ⟨Nat.le_of_ble_eq_true rfl, Nat.le_of_ble_eq_true rfl⟩ ⟨Nat.le_of_ble_eq_true rfl, Nat.le_of_ble_eq_true rfl⟩ dX12_deal_205 (fun r6631 u6632 H locs hr6631 hP hD hS => ?_)
          obtain ⟨jr16633, ip16634, gtrc6635⟩ := u6632
          try dsimp only at hr6631
          have hP : va_P G.1 vwCl [(nw, .inl (G.2.1, 1662, .inl fnw)), (nsh, .inl (G.2.1, 4, .inl fnsh)), (nsf, .inl (G.2.1, 4, .inl fnsf)), (h0, .inr (12, [.ref nw, .ref nk, .int mhasKept, .ref nt, .int mtaped, .ref nr, .int mrowMany, .int mroundOf, .int mroundFrom, .int mouts, .ref nm, .int mfromHour, .int mtoHour, .ref ns, .int mfrom, .int mto, .int msort, .int misFault, .int mdeep, .int mcoded, .int mlines, .ref nl, .ref nc, .ref nF, .ref np, .ref ntr, .ref nb, .int mbestCost, .ref nso, .ref nsi, .ref nit, .ref nsh, .ref nsf, .ref nss, .ref nrc, .int (nI jr16633), .int 2, .int (nI jno), .int (fnw (32 + 6 * jno + 0)), .int (fnw (32 + 6 * jno + 2)), .int ip16634])), (nrc, .inl (G.2.1, 30, .inl gtrc6635))] H := hP
          have hD : va_D A [(nw, .inl (G.2.1, 1662, .inl fnw)), (nsh, .inl (G.2.1, 4, .inl fnsh)), (nsf, .inl (G.2.1, 4, .inl fnsf)), (h0, .inr (12, [.ref nw, .ref nk, .int mhasKept, .ref nt, .int mtaped, .ref nr, .int mrowMany, .int mroundOf, .int mroundFrom, .int mouts, .ref nm, .int mfromHour, .int mtoHour, .ref ns, .int mfrom, .int mto, .int msort, .int misFault, .int mdeep, .int mcoded, .int mlines, .ref nl, .ref nc, .ref nF, .ref np, .ref ntr, .ref nb, .int mbestCost, .ref nso, .ref nsi, .ref nit, .ref nsh, .ref nsf, .ref nss, .ref nrc, .int (nI jr16633), .int 2, .int (nI jno), .int (fnw (32 + 6 * jno + 0)), .int (fnw (32 + 6 * jno + 2)), .int ip16634])), (nrc, .inl (G.2.1, 30, .inl gtrc6635))] := hD
          obtain ⟨hr6631, w6636⟩ := hr6631
          refine lv_istore (lv' := [(7, .int r6631), (6, .int 0), (5, .int 1), (4, .int 2), (0, .ref h0), (1, .int (nI jt)), (2, .int 0), (3, .int x3)]) hx hb dX12_deal_208 hl (by decide) rfl (fun ls hl => ?_)
          refine lv_aload_n hx hb dX12_deal_210 rfl (lv_at hl 4 rfl) ?_
          refine gf_X12_380 hC rfl hK hP 3 rfl rfl dX12_deal_211 ?_
          refine lv_if_eq (tgt := 222) hx hb dX12_deal_214 (by decide) (fun c_214_6637 => ?_) (fun c_214_6637 => ?_)
          · refine lv_iload hx hb dX12_deal_222 (lv_at hl 0 rfl) ?_
            exact RI (v := r6631) hC hP hD hS [3, 0, 1, 2, 4] (jr16633, 2, nI jno, fnw (32 + 6 * jno + 0), fnw (32 + 6 * jno + 2), ip16634, gtrc6635) rfl rfl (by decide) (⟨trivial, by omega⟩) rfl dX12_deal_224
          · refine lv_bipush (v := (-15)) hx hb dX12_deal_217 (by decide) ?_
            refine lv_goto (tgt := 224) hx hb dX12_deal_219 (by decide) ?_
            exact RI (v := (-15)) hC hP hD hS [3, 0, 1, 2, 4] (jr16633, 2, nI jno, fnw (32 + 6 * jno + 0), fnw (32 + 6 * jno + 2), ip16634, gtrc6635) rfl rfl (by decide) (⟨trivial, by omega⟩) rfl dX12_deal_224
        · refine lv_aload_n hx hb dX12_deal_202 rfl (lv_at hl 3 rfl) ?_
          refine lv_iload_n hx hb dX12_deal_203 rfl (lv_at hl 5 rfl) ?_
          refine lv_iload_n hx hb dX12_deal_204 rfl (lv_at hl 6 rfl) ?_
          refine iV (wr := [(nw, .inl (G.2.1, 1662, .inl fnw)), (nsh, .inl (G.2.1, 4, .inl fnsh)), (nsf, .inl (G.2.1, 4, .inl fnsf))]) hC hK hl hP hD hS hA (m_dealt1 l G h0 x3 nw nk mhasKept nt mtaped nr mrowMany mroundOf mroundFrom mouts nm mfromHour mtoHour ns mfrom mto msort misFault mdeep mcoded mlines nl nc nF np ntr nb mbestCost nso nsi nit nsh nsf nss nrc 0 2 (nI jno) (fnw (32 + 6 * jno + 0)) (fnw (32 + 6 * jno + 2)) 0 fnrc (by omega) (by omega)) si_X12_372 [0, 4] [1, 2, 3] rfl rfl (by decide) rfl (by decide) (by decide) rfl rfl rfl rfl rfl (Nat.le_of_ble_eq_true rfl) ⟨Nat.le_of_ble_eq_true rfl, Nat.le_of_ble_eq_true rfl⟩ ⟨Nat.le_of_ble_eq_true rfl, Nat.le_of_ble_eq_true rfl⟩ dX12_deal_205 (fun r6638 u6639 H locs hr6638 hP hD hS => ?_)
          obtain ⟨jr16640, ip16641, gtrc6642⟩ := u6639
          try dsimp only at hr6638
          have hP : va_P G.1 vwCl [(nw, .inl (G.2.1, 1662, .inl fnw)), (nsh, .inl (G.2.1, 4, .inl fnsh)), (nsf, .inl (G.2.1, 4, .inl fnsf)), (h0, .inr (12, [.ref nw, .ref nk, .int mhasKept, .ref nt, .int mtaped, .ref nr, .int mrowMany, .int mroundOf, .int mroundFrom, .int mouts, .ref nm, .int mfromHour, .int mtoHour, .ref ns, .int mfrom, .int mto, .int msort, .int misFault, .int mdeep, .int mcoded, .int mlines, .ref nl, .ref nc, .ref nF, .ref np, .ref ntr, .ref nb, .int mbestCost, .ref nso, .ref nsi, .ref nit, .ref nsh, .ref nsf, .ref nss, .ref nrc, .int (nI jr16640), .int 2, .int (nI jno), .int (fnw (32 + 6 * jno + 0)), .int (fnw (32 + 6 * jno + 2)), .int ip16641])), (nrc, .inl (G.2.1, 30, .inl gtrc6642))] H := hP
          have hD : va_D A [(nw, .inl (G.2.1, 1662, .inl fnw)), (nsh, .inl (G.2.1, 4, .inl fnsh)), (nsf, .inl (G.2.1, 4, .inl fnsf)), (h0, .inr (12, [.ref nw, .ref nk, .int mhasKept, .ref nt, .int mtaped, .ref nr, .int mrowMany, .int mroundOf, .int mroundFrom, .int mouts, .ref nm, .int mfromHour, .int mtoHour, .ref ns, .int mfrom, .int mto, .int msort, .int misFault, .int mdeep, .int mcoded, .int mlines, .ref nl, .ref nc, .ref nF, .ref np, .ref ntr, .ref nb, .int mbestCost, .ref nso, .ref nsi, .ref nit, .ref nsh, .ref nsf, .ref nss, .ref nrc, .int (nI jr16640), .int 2, .int (nI jno), .int (fnw (32 + 6 * jno + 0)), .int (fnw (32 + 6 * jno + 2)), .int ip16641])), (nrc, .inl (G.2.1, 30, .inl gtrc6642))] := hD
          obtain ⟨hr6638, w6643⟩ := hr6638
          refine lv_istore (lv' := [(7, .int r6638), (6, .int 0), (5, .int 1), (4, .int 2), (0, .ref h0), (1, .int (nI jt)), (2, .int 1), (3, .int x3)]) hx hb dX12_deal_208 hl (by decide) rfl (fun ls hl => ?_)
          refine lv_aload_n hx hb dX12_deal_210 rfl (lv_at hl 4 rfl) ?_
          refine gf_X12_380 hC rfl hK hP 3 rfl rfl dX12_deal_211 ?_
          refine lv_if_eq (tgt := 222) hx hb dX12_deal_214 (by decide) (fun c_214_6644 => ?_) (fun c_214_6644 => ?_)
          · refine lv_iload hx hb dX12_deal_222 (lv_at hl 0 rfl) ?_
            exact RI (v := r6638) hC hP hD hS [3, 0, 1, 2, 4] (jr16640, 2, nI jno, fnw (32 + 6 * jno + 0), fnw (32 + 6 * jno + 2), ip16641, gtrc6642) rfl rfl (by decide) (⟨trivial, by omega⟩) rfl dX12_deal_224
          · refine lv_bipush (v := (-15)) hx hb dX12_deal_217 (by decide) ?_
            refine lv_goto (tgt := 224) hx hb dX12_deal_219 (by decide) ?_
            exact RI (v := (-15)) hC hP hD hS [3, 0, 1, 2, 4] (jr16640, 2, nI jno, fnw (32 + 6 * jno + 0), fnw (32 + 6 * jno + 2), ip16641, gtrc6642) rfl rfl (by decide) (⟨trivial, by omega⟩) rfl dX12_deal_224
        · refine lv_aload_n hx hb dX12_deal_202 rfl (lv_at hl 3 rfl) ?_
          refine lv_iload_n hx hb dX12_deal_203 rfl (lv_at hl 5 rfl) ?_
          refine lv_iload_n hx hb dX12_deal_204 rfl (lv_at hl 6 rfl) ?_
          refine iV (wr := [(nw, .inl (G.2.1, 1662, .inl fnw)), (nsh, .inl (G.2.1, 4, .inl fnsh)), (nsf, .inl (G.2.1, 4, .inl fnsf))]) hC hK hl hP hD hS hA (m_dealt2 l G h0 x3 nw nk mhasKept nt mtaped nr mrowMany mroundOf mroundFrom mouts nm mfromHour mtoHour ns mfrom mto msort misFault mdeep mcoded mlines nl nc nF np ntr nb mbestCost nso nsi nit nsh nsf nss nrc 0 2 (nI jno) (fnw (32 + 6 * jno + 0)) (fnw (32 + 6 * jno + 2)) 0 fnrc (by omega) (by omega)) si_X12_372 [0, 4] [1, 2, 3] rfl rfl (by decide) rfl (by decide) (by decide) rfl rfl rfl rfl rfl (Nat.le_of_ble_eq_true rfl) ⟨Nat.le_of_ble_eq_true rfl, Nat.le_of_ble_eq_true rfl⟩ ⟨Nat.le_of_ble_eq_true rfl, Nat.le_of_ble_eq_true rfl⟩ dX12_deal_205 (fun r6645 u6646 H locs hr6645 hP hD hS => ?_)
          obtain ⟨jr16647, ip16648, gtrc6649⟩ := u6646
          try dsimp only at hr6645
          have hP : va_P G.1 vwCl [(nw, .inl (G.2.1, 1662, .inl fnw)), (nsh, .inl (G.2.1, 4, .inl fnsh)), (nsf, .inl (G.2.1, 4, .inl fnsf)), (h0, .inr (12, [.ref nw, .ref nk, .int mhasKept, .ref nt, .int mtaped, .ref nr, .int mrowMany, .int mroundOf, .int mroundFrom, .int mouts, .ref nm, .int mfromHour, .int mtoHour, .ref ns, .int mfrom, .int mto, .int msort, .int misFault, .int mdeep, .int mcoded, .int mlines, .ref nl, .ref nc, .ref nF, .ref np, .ref ntr, .ref nb, .int mbestCost, .ref nso, .ref nsi, .ref nit, .ref nsh, .ref nsf, .ref nss, .ref nrc, .int (nI jr16647), .int 2, .int (nI jno), .int (fnw (32 + 6 * jno + 0)), .int (fnw (32 + 6 * jno + 2)), .int ip16648])), (nrc, .inl (G.2.1, 30, .inl gtrc6649))] H := hP
          have hD : va_D A [(nw, .inl (G.2.1, 1662, .inl fnw)), (nsh, .inl (G.2.1, 4, .inl fnsh)), (nsf, .inl (G.2.1, 4, .inl fnsf)), (h0, .inr (12, [.ref nw, .ref nk, .int mhasKept, .ref nt, .int mtaped, .ref nr, .int mrowMany, .int mroundOf, .int mroundFrom, .int mouts, .ref nm, .int mfromHour, .int mtoHour, .ref ns, .int mfrom, .int mto, .int msort, .int misFault, .int mdeep, .int mcoded, .int mlines, .ref nl, .ref nc, .ref nF, .ref np, .ref ntr, .ref nb, .int mbestCost, .ref nso, .ref nsi, .ref nit, .ref nsh, .ref nsf, .ref nss, .ref nrc, .int (nI jr16647), .int 2, .int (nI jno), .int (fnw (32 + 6 * jno + 0)), .int (fnw (32 + 6 * jno + 2)), .int ip16648])), (nrc, .inl (G.2.1, 30, .inl gtrc6649))] := hD
          obtain ⟨hr6645, w6650⟩ := hr6645
          refine lv_istore (lv' := [(7, .int r6645), (6, .int 0), (5, .int 1), (4, .int 2), (0, .ref h0), (1, .int (nI jt)), (2, .int 2), (3, .int x3)]) hx hb dX12_deal_208 hl (by decide) rfl (fun ls hl => ?_)
          refine lv_aload_n hx hb dX12_deal_210 rfl (lv_at hl 4 rfl) ?_
          refine gf_X12_380 hC rfl hK hP 3 rfl rfl dX12_deal_211 ?_
          refine lv_if_eq (tgt := 222) hx hb dX12_deal_214 (by decide) (fun c_214_6651 => ?_) (fun c_214_6651 => ?_)
          · refine lv_iload hx hb dX12_deal_222 (lv_at hl 0 rfl) ?_
            exact RI (v := r6645) hC hP hD hS [3, 0, 1, 2, 4] (jr16647, 2, nI jno, fnw (32 + 6 * jno + 0), fnw (32 + 6 * jno + 2), ip16648, gtrc6649) rfl rfl (by decide) (⟨trivial, by omega⟩) rfl dX12_deal_224
          · refine lv_bipush (v := (-15)) hx hb dX12_deal_217 (by decide) ?_
            refine lv_goto (tgt := 224) hx hb dX12_deal_219 (by decide) ?_
            exact RI (v := (-15)) hC hP hD hS [3, 0, 1, 2, 4] (jr16647, 2, nI jno, fnw (32 + 6 * jno + 0), fnw (32 + 6 * jno + 2), ip16648, gtrc6649) rfl rfl (by decide) (⟨trivial, by omega⟩) rfl dX12_deal_224
        · refine lv_aload_n hx hb dX12_deal_202 rfl (lv_at hl 3 rfl) ?_
          refine lv_iload_n hx hb dX12_deal_203 rfl (lv_at hl 5 rfl) ?_
          refine lv_iload_n hx hb dX12_deal_204 rfl (lv_at hl 6 rfl) ?_
          refine iV (wr := [(nw, .inl (G.2.1, 1662, .inl fnw)), (nsh, .inl (G.2.1, 4, .inl fnsh)), (nsf, .inl (G.2.1, 4, .inl fnsf))]) hC hK hl hP hD hS hA (m_dealt3 l G h0 x3 nw nk mhasKept nt mtaped nr mrowMany mroundOf mroundFrom mouts nm mfromHour mtoHour ns mfrom mto msort misFault mdeep mcoded mlines nl nc nF np ntr nb mbestCost nso nsi nit nsh nsf nss nrc 0 2 (nI jno) (fnw (32 + 6 * jno + 0)) (fnw (32 + 6 * jno + 2)) 0 fnrc (by omega) (by omega)) si_X12_372 [0, 4] [1, 2, 3] rfl rfl (by decide) rfl (by decide) (by decide) rfl rfl rfl rfl rfl (Nat.le_of_ble_eq_true rfl) ⟨Nat.le_of_ble_eq_true rfl, Nat.le_of_ble_eq_true rfl⟩ ⟨Nat.le_of_ble_eq_true rfl, Nat.le_of_ble_eq_true rfl⟩ dX12_deal_205 (fun r6652 u6653 H locs hr6652 hP hD hS => ?_)
          obtain ⟨jr16654, ip16655, gtrc6656⟩ := u6653
          try dsimp only at hr6652
          have hP : va_P G.1 vwCl [(nw, .inl (G.2.1, 1662, .inl fnw)), (nsh, .inl (G.2.1, 4, .inl fnsh)), (nsf, .inl (G.2.1, 4, .inl fnsf)), (h0, .inr (12, [.ref nw, .ref nk, .int mhasKept, .ref nt, .int mtaped, .ref nr, .int mrowMany, .int mroundOf, .int mroundFrom, .int mouts, .ref nm, .int mfromHour, .int mtoHour, .ref ns, .int mfrom, .int mto, .int msort, .int misFault, .int mdeep, .int mcoded, .int mlines, .ref nl, .ref nc, .ref nF, .ref np, .ref ntr, .ref nb, .int mbestCost, .ref nso, .ref nsi, .ref nit, .ref nsh, .ref nsf, .ref nss, .ref nrc, .int (nI jr16654), .int 2, .int (nI jno), .int (fnw (32 + 6 * jno + 0)), .int (fnw (32 + 6 * jno + 2)), .int ip16655])), (nrc, .inl (G.2.1, 30, .inl gtrc6656))] H := hP
          have hD : va_D A [(nw, .inl (G.2.1, 1662, .inl fnw)), (nsh, .inl (G.2.1, 4, .inl fnsh)), (nsf, .inl (G.2.1, 4, .inl fnsf)), (h0, .inr (12, [.ref nw, .ref nk, .int mhasKept, .ref nt, .int mtaped, .ref nr, .int mrowMany, .int mroundOf, .int mroundFrom, .int mouts, .ref nm, .int mfromHour, .int mtoHour, .ref ns, .int mfrom, .int mto, .int msort, .int misFault, .int mdeep, .int mcoded, .int mlines, .ref nl, .ref nc, .ref nF, .ref np, .ref ntr, .ref nb, .int mbestCost, .ref nso, .ref nsi, .ref nit, .ref nsh, .ref nsf, .ref nss, .ref nrc, .int (nI jr16654), .int 2, .int (nI jno), .int (fnw (32 + 6 * jno + 0)), .int (fnw (32 + 6 * jno + 2)), .int ip16655])), (nrc, .inl (G.2.1, 30, .inl gtrc6656))] := hD
          obtain ⟨hr6652, w6657⟩ := hr6652
          refine lv_istore (lv' := [(7, .int r6652), (6, .int 0), (5, .int 1), (4, .int 2), (0, .ref h0), (1, .int (nI jt)), (2, .int 3), (3, .int x3)]) hx hb dX12_deal_208 hl (by decide) rfl (fun ls hl => ?_)
          refine lv_aload_n hx hb dX12_deal_210 rfl (lv_at hl 4 rfl) ?_
          refine gf_X12_380 hC rfl hK hP 3 rfl rfl dX12_deal_211 ?_
          refine lv_if_eq (tgt := 222) hx hb dX12_deal_214 (by decide) (fun c_214_6658 => ?_) (fun c_214_6658 => ?_)
          · refine lv_iload hx hb dX12_deal_222 (lv_at hl 0 rfl) ?_
            exact RI (v := r6652) hC hP hD hS [3, 0, 1, 2, 4] (jr16654, 2, nI jno, fnw (32 + 6 * jno + 0), fnw (32 + 6 * jno + 2), ip16655, gtrc6656) rfl rfl (by decide) (⟨trivial, by omega⟩) rfl dX12_deal_224
          · refine lv_bipush (v := (-15)) hx hb dX12_deal_217 (by decide) ?_
            refine lv_goto (tgt := 224) hx hb dX12_deal_219 (by decide) ?_
            exact RI (v := (-15)) hC hP hD hS [3, 0, 1, 2, 4] (jr16654, 2, nI jno, fnw (32 + 6 * jno + 0), fnw (32 + 6 * jno + 2), ip16655, gtrc6656) rfl rfl (by decide) (⟨trivial, by omega⟩) rfl dX12_deal_224
      · refine lv_istore (lv' := [(4, .int 3), (0, .ref h0), (1, .int (nI jt)), (2, .int x2), (3, .int x3)]) hx hb dX12_deal_28 hl (by decide) rfl (fun ls hl => ?_)
        refine lv_iload hx hb dX12_deal_30 (lv_at hl 0 rfl) ?_
        refine lv_if_ge (tgt := 37) hx hb dX12_deal_32 (by decide) (fun _ => ?_) (fun c9 => absurd (by decide) c9)
        refine lv_aload_n hx hb dX12_deal_37 rfl (lv_at hl 1 rfl) ?_
        refine lv_iload hx hb dX12_deal_38 (lv_at hl 0 rfl) ?_
        refine pf_X12_354 hC rfl hK hP hD hS 0 (ws' := [(h0, .inr (12, [.ref nw, .ref nk, .int mhasKept, .ref nt, .int mtaped, .ref nr, .int mrowMany, .int mroundOf, .int mroundFrom, .int mouts, .ref nm, .int mfromHour, .int mtoHour, .ref ns, .int mfrom, .int mto, .int msort, .int misFault, .int mdeep, .int mcoded, .int mlines, .ref nl, .ref nc, .ref nF, .ref np, .ref ntr, .ref nb, .int mbestCost, .ref nso, .ref nsi, .ref nit, .ref nsh, .ref nsf, .ref nss, .ref nrc, .int 0, .int 3, .int mnumber, .int mwhose, .int msize, .int misParted])), (nw, .inl (G.2.1, 1662, .inl fnw)), (nsh, .inl (G.2.1, 4, .inl fnsh)), (nsf, .inl (G.2.1, 4, .inl fnsf)), (nrc, .inl (G.2.1, 30, .inl fnrc))]) rfl (Nat.le_of_ble_eq_true rfl) rfl rfl rfl dX12_deal_40 (fun H locs hP hD hS => ?_)
        refine lv_aload_n hx hb dX12_deal_43 rfl (lv_at hl 1 rfl) ?_
        refine lv_aload_n hx hb dX12_deal_44 rfl (lv_at hl 1 rfl) ?_
        refine gf_X12_75 hC rfl hK hP 0 rfl rfl dX12_deal_45 ?_
        refine lv_iload_n hx hb dX12_deal_48 rfl (lv_at hl 2 rfl) ?_
        refine ald hC hK hP 3 rfl (vp_in_nI (by omega) (by omega)) (k := jt) (nI_clamp (by omega)) (v := fnsf jt) rfl dX12_deal_49 ?_
        refine lv_topi (fun x6659 ex6659 => ?_)
        obtain ⟨hko9, jno, hjno, ejno⟩ := a6588
        refine eqi (x1 := nI jno) (ex6659.trans ejno) ?_
        refine pf_X12_378 hC rfl hK hP hD hS 0 (ws' := [(h0, .inr (12, [.ref nw, .ref nk, .int mhasKept, .ref nt, .int mtaped, .ref nr, .int mrowMany, .int mroundOf, .int mroundFrom, .int mouts, .ref nm, .int mfromHour, .int mtoHour, .ref ns, .int mfrom, .int mto, .int msort, .int misFault, .int mdeep, .int mcoded, .int mlines, .ref nl, .ref nc, .ref nF, .ref np, .ref ntr, .ref nb, .int mbestCost, .ref nso, .ref nsi, .ref nit, .ref nsh, .ref nsf, .ref nss, .ref nrc, .int 0, .int 3, .int (nI jno), .int mwhose, .int msize, .int misParted])), (nw, .inl (G.2.1, 1662, .inl fnw)), (nsh, .inl (G.2.1, 4, .inl fnsh)), (nsf, .inl (G.2.1, 4, .inl fnsf)), (nrc, .inl (G.2.1, 30, .inl fnrc))]) rfl (Nat.le_of_ble_eq_true rfl) rfl rfl rfl dX12_deal_50 (fun H locs hP hD hS => ?_)
        refine lv_aload_n hx hb dX12_deal_53 rfl (lv_at hl 1 rfl) ?_
        refine gf_X12_72 hC rfl hK hP 0 rfl rfl dX12_deal_54 ?_
        refine lv_iload_n hx hb dX12_deal_57 rfl (lv_at hl 2 rfl) ?_
        refine ald hC hK hP 2 rfl (vp_in_nI (by omega) (by omega)) (k := jt) (nI_clamp (by omega)) (v := fnsh jt) rfl dX12_deal_58 ?_
        refine lv_topi (fun x6660 ex6660 => ?_)
        refine lv_iconst (v := 1) hx hb dX12_deal_59 (by decide) ?_
        refine lv_icmp_ne (tgt := 67) hx hb dX12_deal_60 (by decide) (fun c9 => absurd (ex6660.trans hko9) c9) (fun _ => ?_)
        refine lv_iconst (v := 1) hx hb dX12_deal_63 (by decide) ?_
        refine lv_goto (tgt := 68) hx hb dX12_deal_64 (by decide) ?_
        refine lv_istore (lv' := [(5, .int 1), (4, .int 3), (0, .ref h0), (1, .int (nI jt)), (2, .int x2), (3, .int x3)]) hx hb dX12_deal_68 hl (by decide) rfl (fun ls hl => ?_)
        refine lv_aload_n hx hb dX12_deal_70 rfl (lv_at hl 2 rfl) ?_
        refine gf_X12_72 hC rfl hK hP 0 rfl rfl dX12_deal_71 ?_
        refine lv_iload_n hx hb dX12_deal_74 rfl (lv_at hl 3 rfl) ?_
        refine ald hC hK hP 2 rfl (vp_in_nI (by omega) (by omega)) (k := jt) (nI_clamp (by omega)) (v := fnsh jt) rfl dX12_deal_75 ?_
        refine lv_topi (fun x6661 ex6661 => ?_)
        refine lv_iconst (v := 2) hx hb dX12_deal_76 (by decide) ?_
        refine lv_icmp_ne (tgt := 84) hx hb dX12_deal_77 (by decide) (fun _ => ?_) (fun c9 => absurd c9 (fun h9 => absurd (hko9.symm.trans ((ex6661.symm).trans h9)) (by decide)))
        refine lv_iconst (v := 0) hx hb dX12_deal_84 (by decide) ?_
        refine lv_istore (lv' := [(6, .int 0), (5, .int 1), (4, .int 3), (0, .ref h0), (1, .int (nI jt)), (2, .int x2), (3, .int x3)]) hx hb dX12_deal_85 hl (by decide) rfl (fun ls hl => ?_)
        refine lv_aload_n hx hb dX12_deal_87 rfl (lv_at hl 3 rfl) ?_
        refine lv_iload hx hb dX12_deal_88 (lv_at hl 1 rfl) ?_
        refine lv_if_eq (tgt := 105) hx hb dX12_deal_90 (by decide) (fun c9 => absurd c9 (by decide)) (fun _ => ?_)
        refine lv_aload_n hx hb dX12_deal_93 rfl (lv_at hl 3 rfl) ?_
        refine lv_aload_n hx hb dX12_deal_94 rfl (lv_at hl 3 rfl) ?_
        refine gf_X12_378 hC rfl hK hP 0 rfl rfl dX12_deal_95 ?_
        refine lv_iconst (v := 0) hx hb dX12_deal_98 (by decide) ?_
        refine pV hC hK hl hP hD (m_paper l G h0 jno 0 nw nk mhasKept nt mtaped nr mrowMany mroundOf mroundFrom mouts nm mfromHour mtoHour ns mfrom mto msort misFault mdeep mcoded mlines nl nc nF np ntr nb mbestCost nso nsi nit nsh nsf nss nrc 0 3 (nI jno) mwhose msize misParted fnw (by omega) (by omega)) si_X12_88 [0, 1] rfl rfl (by decide) rfl rfl rfl rfl rfl (Nat.le_of_ble_eq_true rfl) ⟨Nat.le_of_ble_eq_true rfl, Nat.le_of_ble_eq_true rfl⟩ ⟨by first | exact Nat.le_of_ble_eq_true rfl | exact Nat.zero_le _, by first | exact Nat.le_of_ble_eq_true rfl | exact Nat.zero_le _⟩ dX12_deal_99 (fun r6662 hr6662 => ?_)
        obtain rfl := hr6662
        refine lv_goto (tgt := 139) hx hb dX12_deal_102 (by decide) ?_
        refine pf_X12_375 hC rfl hK hP hD hS 0 (ws' := [(h0, .inr (12, [.ref nw, .ref nk, .int mhasKept, .ref nt, .int mtaped, .ref nr, .int mrowMany, .int mroundOf, .int mroundFrom, .int mouts, .ref nm, .int mfromHour, .int mtoHour, .ref ns, .int mfrom, .int mto, .int msort, .int misFault, .int mdeep, .int mcoded, .int mlines, .ref nl, .ref nc, .ref nF, .ref np, .ref ntr, .ref nb, .int mbestCost, .ref nso, .ref nsi, .ref nit, .ref nsh, .ref nsf, .ref nss, .ref nrc, .int 0, .int 3, .int (nI jno), .int (fnw (32 + 6 * jno + 0)), .int msize, .int misParted])), (nw, .inl (G.2.1, 1662, .inl fnw)), (nsh, .inl (G.2.1, 4, .inl fnsh)), (nsf, .inl (G.2.1, 4, .inl fnsf)), (nrc, .inl (G.2.1, 30, .inl fnrc))]) rfl (Nat.le_of_ble_eq_true rfl) rfl rfl rfl dX12_deal_139 (fun H locs hP hD hS => ?_)
        refine lv_aload_n hx hb dX12_deal_142 rfl (lv_at hl 3 rfl) ?_
        refine lv_iload hx hb dX12_deal_143 (lv_at hl 1 rfl) ?_
        refine lv_if_eq (tgt := 160) hx hb dX12_deal_145 (by decide) (fun c9 => absurd c9 (by decide)) (fun _ => ?_)
        refine lv_aload_n hx hb dX12_deal_148 rfl (lv_at hl 3 rfl) ?_
        refine lv_aload_n hx hb dX12_deal_149 rfl (lv_at hl 3 rfl) ?_
        refine gf_X12_378 hC rfl hK hP 0 rfl rfl dX12_deal_150 ?_
        refine lv_iconst (v := 2) hx hb dX12_deal_153 (by decide) ?_
        refine pV hC hK hl hP hD (m_paper l G h0 jno 2 nw nk mhasKept nt mtaped nr mrowMany mroundOf mroundFrom mouts nm mfromHour mtoHour ns mfrom mto msort misFault mdeep mcoded mlines nl nc nF np ntr nb mbestCost nso nsi nit nsh nsf nss nrc 0 3 (nI jno) (fnw (32 + 6 * jno + 0)) msize misParted fnw (by omega) (by omega)) si_X12_88 [0, 1] rfl rfl (by decide) rfl rfl rfl rfl rfl (Nat.le_of_ble_eq_true rfl) ⟨Nat.le_of_ble_eq_true rfl, Nat.le_of_ble_eq_true rfl⟩ ⟨by first | exact Nat.le_of_ble_eq_true rfl | exact Nat.zero_le _, by first | exact Nat.le_of_ble_eq_true rfl | exact Nat.zero_le _⟩ dX12_deal_154 (fun r6664 hr6664 => ?_)
        obtain rfl := hr6664
        refine lv_goto (tgt := 194) hx hb dX12_deal_157 (by decide) ?_
        refine pf_X12_369 hC rfl hK hP hD hS 0 (ws' := [(h0, .inr (12, [.ref nw, .ref nk, .int mhasKept, .ref nt, .int mtaped, .ref nr, .int mrowMany, .int mroundOf, .int mroundFrom, .int mouts, .ref nm, .int mfromHour, .int mtoHour, .ref ns, .int mfrom, .int mto, .int msort, .int misFault, .int mdeep, .int mcoded, .int mlines, .ref nl, .ref nc, .ref nF, .ref np, .ref ntr, .ref nb, .int mbestCost, .ref nso, .ref nsi, .ref nit, .ref nsh, .ref nsf, .ref nss, .ref nrc, .int 0, .int 3, .int (nI jno), .int (fnw (32 + 6 * jno + 0)), .int (fnw (32 + 6 * jno + 2)), .int misParted])), (nw, .inl (G.2.1, 1662, .inl fnw)), (nsh, .inl (G.2.1, 4, .inl fnsh)), (nsf, .inl (G.2.1, 4, .inl fnsf)), (nrc, .inl (G.2.1, 30, .inl fnrc))]) rfl (Nat.le_of_ble_eq_true rfl) rfl rfl rfl dX12_deal_194 (fun H locs hP hD hS => ?_)
        refine lv_aload_n hx hb dX12_deal_197 rfl (lv_at hl 3 rfl) ?_
        refine lv_iconst (v := 0) hx hb dX12_deal_198 (by decide) ?_
        refine pf_X12_380 hC rfl hK hP hD hS 0 (ws' := [(h0, .inr (12, [.ref nw, .ref nk, .int mhasKept, .ref nt, .int mtaped, .ref nr, .int mrowMany, .int mroundOf, .int mroundFrom, .int mouts, .ref nm, .int mfromHour, .int mtoHour, .ref ns, .int mfrom, .int mto, .int msort, .int misFault, .int mdeep, .int mcoded, .int mlines, .ref nl, .ref nc, .ref nF, .ref np, .ref ntr, .ref nb, .int mbestCost, .ref nso, .ref nsi, .ref nit, .ref nsh, .ref nsf, .ref nss, .ref nrc, .int 0, .int 3, .int (nI jno), .int (fnw (32 + 6 * jno + 0)), .int (fnw (32 + 6 * jno + 2)), .int 0])), (nw, .inl (G.2.1, 1662, .inl fnw)), (nsh, .inl (G.2.1, 4, .inl fnsh)), (nsf, .inl (G.2.1, 4, .inl fnsf)), (nrc, .inl (G.2.1, 30, .inl fnrc))]) rfl (Nat.le_of_ble_eq_true rfl) rfl (by decide +kernel) (by decide +kernel) dX12_deal_199 (fun H locs hP hD hS => ?_)
        obtain ⟨jdl, hjdl, rfl⟩ := Wi_nat (N := 3) (by decide) a6586
        rcases (show jdl = 0 ∨ jdl = 1 ∨ jdl = 2 ∨ jdl = 3 by omega) with rfl | rfl | rfl | rfl
        · refine lv_aload_n hx hb dX12_deal_202 rfl (lv_at hl 3 rfl) ?_
          refine lv_iload_n hx hb dX12_deal_203 rfl (lv_at hl 5 rfl) ?_
          refine lv_iload_n hx hb dX12_deal_204 rfl (lv_at hl 6 rfl) ?_
          refine iV (wr := [(nw, .inl (G.2.1, 1662, .inl fnw)), (nsh, .inl (G.2.1, 4, .inl fnsh)), (nsf, .inl (G.2.1, 4, .inl fnsf))]) hC hK hl hP hD hS hA (m_dealt0 l G h0 x3 nw nk mhasKept nt mtaped nr mrowMany mroundOf mroundFrom mouts nm mfromHour mtoHour ns mfrom mto msort misFault mdeep mcoded mlines nl nc nF np ntr nb mbestCost nso nsi nit nsh nsf nss nrc 0 3 (nI jno) (fnw (32 + 6 * jno + 0)) (fnw (32 + 6 * jno + 2)) 0 fnrc (by omega) (by omega)) si_X12_372 [0, 4] [1, 2, 3] rfl rfl (by decide) rfl (by decide) (by decide) rfl rfl rfl rfl rfl (Nat.le_of_ble_eq_true rfl) ⟨Nat.le_of_ble_eq_true rfl, Nat.le_of_ble_eq_true rfl⟩ ⟨Nat.le_of_ble_eq_true rfl, Nat.le_of_ble_eq_true rfl⟩ dX12_deal_205 (fun r6666 u6667 H locs hr6666 hP hD hS => ?_)
          obtain ⟨jr16668, ip16669, gtrc6670⟩ := u6667
          try dsimp only at hr6666
          have hP : va_P G.1 vwCl [(nw, .inl (G.2.1, 1662, .inl fnw)), (nsh, .inl (G.2.1, 4, .inl fnsh)), (nsf, .inl (G.2.1, 4, .inl fnsf)), (h0, .inr (12, [.ref nw, .ref nk, .int mhasKept, .ref nt, .int mtaped, .ref nr, .int mrowMany, .int mroundOf, .int mroundFrom, .int mouts, .ref nm, .int mfromHour, .int mtoHour, .ref ns, .int mfrom, .int mto, .int msort, .int misFault, .int mdeep, .int mcoded, .int mlines, .ref nl, .ref nc, .ref nF, .ref np, .ref ntr, .ref nb, .int mbestCost, .ref nso, .ref nsi, .ref nit, .ref nsh, .ref nsf, .ref nss, .ref nrc, .int (nI jr16668), .int 3, .int (nI jno), .int (fnw (32 + 6 * jno + 0)), .int (fnw (32 + 6 * jno + 2)), .int ip16669])), (nrc, .inl (G.2.1, 30, .inl gtrc6670))] H := hP
          have hD : va_D A [(nw, .inl (G.2.1, 1662, .inl fnw)), (nsh, .inl (G.2.1, 4, .inl fnsh)), (nsf, .inl (G.2.1, 4, .inl fnsf)), (h0, .inr (12, [.ref nw, .ref nk, .int mhasKept, .ref nt, .int mtaped, .ref nr, .int mrowMany, .int mroundOf, .int mroundFrom, .int mouts, .ref nm, .int mfromHour, .int mtoHour, .ref ns, .int mfrom, .int mto, .int msort, .int misFault, .int mdeep, .int mcoded, .int mlines, .ref nl, .ref nc, .ref nF, .ref np, .ref ntr, .ref nb, .int mbestCost, .ref nso, .ref nsi, .ref nit, .ref nsh, .ref nsf, .ref nss, .ref nrc, .int (nI jr16668), .int 3, .int (nI jno), .int (fnw (32 + 6 * jno + 0)), .int (fnw (32 + 6 * jno + 2)), .int ip16669])), (nrc, .inl (G.2.1, 30, .inl gtrc6670))] := hD
          obtain ⟨hr6666, w6671⟩ := hr6666
          refine lv_istore (lv' := [(7, .int r6666), (6, .int 0), (5, .int 1), (4, .int 3), (0, .ref h0), (1, .int (nI jt)), (2, .int 0), (3, .int x3)]) hx hb dX12_deal_208 hl (by decide) rfl (fun ls hl => ?_)
          refine lv_aload_n hx hb dX12_deal_210 rfl (lv_at hl 4 rfl) ?_
          refine gf_X12_380 hC rfl hK hP 3 rfl rfl dX12_deal_211 ?_
          refine lv_if_eq (tgt := 222) hx hb dX12_deal_214 (by decide) (fun c_214_6672 => ?_) (fun c_214_6672 => ?_)
          · refine lv_iload hx hb dX12_deal_222 (lv_at hl 0 rfl) ?_
            exact RI (v := r6666) hC hP hD hS [3, 0, 1, 2, 4] (jr16668, 3, nI jno, fnw (32 + 6 * jno + 0), fnw (32 + 6 * jno + 2), ip16669, gtrc6670) rfl rfl (by decide) (⟨trivial, by omega⟩) rfl dX12_deal_224
          · refine lv_bipush (v := (-15)) hx hb dX12_deal_217 (by decide) ?_
            refine lv_goto (tgt := 224) hx hb dX12_deal_219 (by decide) ?_
            exact RI (v := (-15)) hC hP hD hS [3, 0, 1, 2, 4] (jr16668, 3, nI jno, fnw (32 + 6 * jno + 0), fnw (32 + 6 * jno + 2), ip16669, gtrc6670) rfl rfl (by decide) (⟨trivial, by omega⟩) rfl dX12_deal_224
        · refine lv_aload_n hx hb dX12_deal_202 rfl (lv_at hl 3 rfl) ?_
          refine lv_iload_n hx hb dX12_deal_203 rfl (lv_at hl 5 rfl) ?_
          refine lv_iload_n hx hb dX12_deal_204 rfl (lv_at hl 6 rfl) ?_
          refine iV (wr := [(nw, .inl (G.2.1, 1662, .inl fnw)), (nsh, .inl (G.2.1, 4, .inl fnsh)), (nsf, .inl (G.2.1, 4, .inl fnsf))]) hC hK hl hP hD hS hA (m_dealt1 l G h0 x3 nw nk mhasKept nt mtaped nr mrowMany mroundOf mroundFrom mouts nm mfromHour mtoHour ns mfrom mto msort misFault mdeep mcoded mlines nl nc nF np ntr nb mbestCost nso nsi nit nsh nsf nss nrc 0 3 (nI jno) (fnw (32 + 6 * jno + 0)) (fnw (32 + 6 * jno + 2)) 0 fnrc (by omega) (by omega)) si_X12_372 [0, 4] [1, 2, 3] rfl rfl (by decide) rfl (by decide) (by decide) rfl rfl rfl rfl rfl (Nat.le_of_ble_eq_true rfl) ⟨Nat.le_of_ble_eq_true rfl, Nat.le_of_ble_eq_true rfl⟩ ⟨Nat.le_of_ble_eq_true rfl, Nat.le_of_ble_eq_true rfl⟩ dX12_deal_205 (fun r6673 u6674 H locs hr6673 hP hD hS => ?_)
          obtain ⟨jr16675, ip16676, gtrc6677⟩ := u6674
          try dsimp only at hr6673
          have hP : va_P G.1 vwCl [(nw, .inl (G.2.1, 1662, .inl fnw)), (nsh, .inl (G.2.1, 4, .inl fnsh)), (nsf, .inl (G.2.1, 4, .inl fnsf)), (h0, .inr (12, [.ref nw, .ref nk, .int mhasKept, .ref nt, .int mtaped, .ref nr, .int mrowMany, .int mroundOf, .int mroundFrom, .int mouts, .ref nm, .int mfromHour, .int mtoHour, .ref ns, .int mfrom, .int mto, .int msort, .int misFault, .int mdeep, .int mcoded, .int mlines, .ref nl, .ref nc, .ref nF, .ref np, .ref ntr, .ref nb, .int mbestCost, .ref nso, .ref nsi, .ref nit, .ref nsh, .ref nsf, .ref nss, .ref nrc, .int (nI jr16675), .int 3, .int (nI jno), .int (fnw (32 + 6 * jno + 0)), .int (fnw (32 + 6 * jno + 2)), .int ip16676])), (nrc, .inl (G.2.1, 30, .inl gtrc6677))] H := hP
          have hD : va_D A [(nw, .inl (G.2.1, 1662, .inl fnw)), (nsh, .inl (G.2.1, 4, .inl fnsh)), (nsf, .inl (G.2.1, 4, .inl fnsf)), (h0, .inr (12, [.ref nw, .ref nk, .int mhasKept, .ref nt, .int mtaped, .ref nr, .int mrowMany, .int mroundOf, .int mroundFrom, .int mouts, .ref nm, .int mfromHour, .int mtoHour, .ref ns, .int mfrom, .int mto, .int msort, .int misFault, .int mdeep, .int mcoded, .int mlines, .ref nl, .ref nc, .ref nF, .ref np, .ref ntr, .ref nb, .int mbestCost, .ref nso, .ref nsi, .ref nit, .ref nsh, .ref nsf, .ref nss, .ref nrc, .int (nI jr16675), .int 3, .int (nI jno), .int (fnw (32 + 6 * jno + 0)), .int (fnw (32 + 6 * jno + 2)), .int ip16676])), (nrc, .inl (G.2.1, 30, .inl gtrc6677))] := hD
          obtain ⟨hr6673, w6678⟩ := hr6673
          refine lv_istore (lv' := [(7, .int r6673), (6, .int 0), (5, .int 1), (4, .int 3), (0, .ref h0), (1, .int (nI jt)), (2, .int 1), (3, .int x3)]) hx hb dX12_deal_208 hl (by decide) rfl (fun ls hl => ?_)
          refine lv_aload_n hx hb dX12_deal_210 rfl (lv_at hl 4 rfl) ?_
          refine gf_X12_380 hC rfl hK hP 3 rfl rfl dX12_deal_211 ?_
          refine lv_if_eq (tgt := 222) hx hb dX12_deal_214 (by decide) (fun c_214_6679 => ?_) (fun c_214_6679 => ?_)
          · refine lv_iload hx hb dX12_deal_222 (lv_at hl 0 rfl) ?_
            exact RI (v := r6673) hC hP hD hS [3, 0, 1, 2, 4] (jr16675, 3, nI jno, fnw (32 + 6 * jno + 0), fnw (32 + 6 * jno + 2), ip16676, gtrc6677) rfl rfl (by decide) (⟨trivial, by omega⟩) rfl dX12_deal_224
          · refine lv_bipush (v := (-15)) hx hb dX12_deal_217 (by decide) ?_
            refine lv_goto (tgt := 224) hx hb dX12_deal_219 (by decide) ?_
            exact RI (v := (-15)) hC hP hD hS [3, 0, 1, 2, 4] (jr16675, 3, nI jno, fnw (32 + 6 * jno + 0), fnw (32 + 6 * jno + 2), ip16676, gtrc6677) rfl rfl (by decide) (⟨trivial, by omega⟩) rfl dX12_deal_224
        · refine lv_aload_n hx hb dX12_deal_202 rfl (lv_at hl 3 rfl) ?_
          refine lv_iload_n hx hb dX12_deal_203 rfl (lv_at hl 5 rfl) ?_
          refine lv_iload_n hx hb dX12_deal_204 rfl (lv_at hl 6 rfl) ?_
          refine iV (wr := [(nw, .inl (G.2.1, 1662, .inl fnw)), (nsh, .inl (G.2.1, 4, .inl fnsh)), (nsf, .inl (G.2.1, 4, .inl fnsf))]) hC hK hl hP hD hS hA (m_dealt2 l G h0 x3 nw nk mhasKept nt mtaped nr mrowMany mroundOf mroundFrom mouts nm mfromHour mtoHour ns mfrom mto msort misFault mdeep mcoded mlines nl nc nF np ntr nb mbestCost nso nsi nit nsh nsf nss nrc 0 3 (nI jno) (fnw (32 + 6 * jno + 0)) (fnw (32 + 6 * jno + 2)) 0 fnrc (by omega) (by omega)) si_X12_372 [0, 4] [1, 2, 3] rfl rfl (by decide) rfl (by decide) (by decide) rfl rfl rfl rfl rfl (Nat.le_of_ble_eq_true rfl) ⟨Nat.le_of_ble_eq_true rfl, Nat.le_of_ble_eq_true rfl⟩ ⟨Nat.le_of_ble_eq_true rfl, Nat.le_of_ble_eq_true rfl⟩ dX12_deal_205 (fun r6680 u6681 H locs hr6680 hP hD hS => ?_)
          obtain ⟨jr16682, ip16683, gtrc6684⟩ := u6681
          try dsimp only at hr6680
          have hP : va_P G.1 vwCl [(nw, .inl (G.2.1, 1662, .inl fnw)), (nsh, .inl (G.2.1, 4, .inl fnsh)), (nsf, .inl (G.2.1, 4, .inl fnsf)), (h0, .inr (12, [.ref nw, .ref nk, .int mhasKept, .ref nt, .int mtaped, .ref nr, .int mrowMany, .int mroundOf, .int mroundFrom, .int mouts, .ref nm, .int mfromHour, .int mtoHour, .ref ns, .int mfrom, .int mto, .int msort, .int misFault, .int mdeep, .int mcoded, .int mlines, .ref nl, .ref nc, .ref nF, .ref np, .ref ntr, .ref nb, .int mbestCost, .ref nso, .ref nsi, .ref nit, .ref nsh, .ref nsf, .ref nss, .ref nrc, .int (nI jr16682), .int 3, .int (nI jno), .int (fnw (32 + 6 * jno + 0)), .int (fnw (32 + 6 * jno + 2)), .int ip16683])), (nrc, .inl (G.2.1, 30, .inl gtrc6684))] H := hP
          have hD : va_D A [(nw, .inl (G.2.1, 1662, .inl fnw)), (nsh, .inl (G.2.1, 4, .inl fnsh)), (nsf, .inl (G.2.1, 4, .inl fnsf)), (h0, .inr (12, [.ref nw, .ref nk, .int mhasKept, .ref nt, .int mtaped, .ref nr, .int mrowMany, .int mroundOf, .int mroundFrom, .int mouts, .ref nm, .int mfromHour, .int mtoHour, .ref ns, .int mfrom, .int mto, .int msort, .int misFault, .int mdeep, .int mcoded, .int mlines, .ref nl, .ref nc, .ref nF, .ref np, .ref ntr, .ref nb, .int mbestCost, .ref nso, .ref nsi, .ref nit, .ref nsh, .ref nsf, .ref nss, .ref nrc, .int (nI jr16682), .int 3, .int (nI jno), .int (fnw (32 + 6 * jno + 0)), .int (fnw (32 + 6 * jno + 2)), .int ip16683])), (nrc, .inl (G.2.1, 30, .inl gtrc6684))] := hD
          obtain ⟨hr6680, w6685⟩ := hr6680
          refine lv_istore (lv' := [(7, .int r6680), (6, .int 0), (5, .int 1), (4, .int 3), (0, .ref h0), (1, .int (nI jt)), (2, .int 2), (3, .int x3)]) hx hb dX12_deal_208 hl (by decide) rfl (fun ls hl => ?_)
          refine lv_aload_n hx hb dX12_deal_210 rfl (lv_at hl 4 rfl) ?_
          refine gf_X12_380 hC rfl hK hP 3 rfl rfl dX12_deal_211 ?_
          refine lv_if_eq (tgt := 222) hx hb dX12_deal_214 (by decide) (fun c_214_6686 => ?_) (fun c_214_6686 => ?_)
          · refine lv_iload hx hb dX12_deal_222 (lv_at hl 0 rfl) ?_
            exact RI (v := r6680) hC hP hD hS [3, 0, 1, 2, 4] (jr16682, 3, nI jno, fnw (32 + 6 * jno + 0), fnw (32 + 6 * jno + 2), ip16683, gtrc6684) rfl rfl (by decide) (⟨trivial, by omega⟩) rfl dX12_deal_224
          · refine lv_bipush (v := (-15)) hx hb dX12_deal_217 (by decide) ?_
            refine lv_goto (tgt := 224) hx hb dX12_deal_219 (by decide) ?_
            exact RI (v := (-15)) hC hP hD hS [3, 0, 1, 2, 4] (jr16682, 3, nI jno, fnw (32 + 6 * jno + 0), fnw (32 + 6 * jno + 2), ip16683, gtrc6684) rfl rfl (by decide) (⟨trivial, by omega⟩) rfl dX12_deal_224
        · refine lv_aload_n hx hb dX12_deal_202 rfl (lv_at hl 3 rfl) ?_
          refine lv_iload_n hx hb dX12_deal_203 rfl (lv_at hl 5 rfl) ?_
          refine lv_iload_n hx hb dX12_deal_204 rfl (lv_at hl 6 rfl) ?_
          refine iV (wr := [(nw, .inl (G.2.1, 1662, .inl fnw)), (nsh, .inl (G.2.1, 4, .inl fnsh)), (nsf, .inl (G.2.1, 4, .inl fnsf))]) hC hK hl hP hD hS hA (m_dealt3 l G h0 x3 nw nk mhasKept nt mtaped nr mrowMany mroundOf mroundFrom mouts nm mfromHour mtoHour ns mfrom mto msort misFault mdeep mcoded mlines nl nc nF np ntr nb mbestCost nso nsi nit nsh nsf nss nrc 0 3 (nI jno) (fnw (32 + 6 * jno + 0)) (fnw (32 + 6 * jno + 2)) 0 fnrc (by omega) (by omega)) si_X12_372 [0, 4] [1, 2, 3] rfl rfl (by decide) rfl (by decide) (by decide) rfl rfl rfl rfl rfl (Nat.le_of_ble_eq_true rfl) ⟨Nat.le_of_ble_eq_true rfl, Nat.le_of_ble_eq_true rfl⟩ ⟨Nat.le_of_ble_eq_true rfl, Nat.le_of_ble_eq_true rfl⟩ dX12_deal_205 (fun r6687 u6688 H locs hr6687 hP hD hS => ?_)
          obtain ⟨jr16689, ip16690, gtrc6691⟩ := u6688
          try dsimp only at hr6687
          have hP : va_P G.1 vwCl [(nw, .inl (G.2.1, 1662, .inl fnw)), (nsh, .inl (G.2.1, 4, .inl fnsh)), (nsf, .inl (G.2.1, 4, .inl fnsf)), (h0, .inr (12, [.ref nw, .ref nk, .int mhasKept, .ref nt, .int mtaped, .ref nr, .int mrowMany, .int mroundOf, .int mroundFrom, .int mouts, .ref nm, .int mfromHour, .int mtoHour, .ref ns, .int mfrom, .int mto, .int msort, .int misFault, .int mdeep, .int mcoded, .int mlines, .ref nl, .ref nc, .ref nF, .ref np, .ref ntr, .ref nb, .int mbestCost, .ref nso, .ref nsi, .ref nit, .ref nsh, .ref nsf, .ref nss, .ref nrc, .int (nI jr16689), .int 3, .int (nI jno), .int (fnw (32 + 6 * jno + 0)), .int (fnw (32 + 6 * jno + 2)), .int ip16690])), (nrc, .inl (G.2.1, 30, .inl gtrc6691))] H := hP
          have hD : va_D A [(nw, .inl (G.2.1, 1662, .inl fnw)), (nsh, .inl (G.2.1, 4, .inl fnsh)), (nsf, .inl (G.2.1, 4, .inl fnsf)), (h0, .inr (12, [.ref nw, .ref nk, .int mhasKept, .ref nt, .int mtaped, .ref nr, .int mrowMany, .int mroundOf, .int mroundFrom, .int mouts, .ref nm, .int mfromHour, .int mtoHour, .ref ns, .int mfrom, .int mto, .int msort, .int misFault, .int mdeep, .int mcoded, .int mlines, .ref nl, .ref nc, .ref nF, .ref np, .ref ntr, .ref nb, .int mbestCost, .ref nso, .ref nsi, .ref nit, .ref nsh, .ref nsf, .ref nss, .ref nrc, .int (nI jr16689), .int 3, .int (nI jno), .int (fnw (32 + 6 * jno + 0)), .int (fnw (32 + 6 * jno + 2)), .int ip16690])), (nrc, .inl (G.2.1, 30, .inl gtrc6691))] := hD
          obtain ⟨hr6687, w6692⟩ := hr6687
          refine lv_istore (lv' := [(7, .int r6687), (6, .int 0), (5, .int 1), (4, .int 3), (0, .ref h0), (1, .int (nI jt)), (2, .int 3), (3, .int x3)]) hx hb dX12_deal_208 hl (by decide) rfl (fun ls hl => ?_)
          refine lv_aload_n hx hb dX12_deal_210 rfl (lv_at hl 4 rfl) ?_
          refine gf_X12_380 hC rfl hK hP 3 rfl rfl dX12_deal_211 ?_
          refine lv_if_eq (tgt := 222) hx hb dX12_deal_214 (by decide) (fun c_214_6693 => ?_) (fun c_214_6693 => ?_)
          · refine lv_iload hx hb dX12_deal_222 (lv_at hl 0 rfl) ?_
            exact RI (v := r6687) hC hP hD hS [3, 0, 1, 2, 4] (jr16689, 3, nI jno, fnw (32 + 6 * jno + 0), fnw (32 + 6 * jno + 2), ip16690, gtrc6691) rfl rfl (by decide) (⟨trivial, by omega⟩) rfl dX12_deal_224
          · refine lv_bipush (v := (-15)) hx hb dX12_deal_217 (by decide) ?_
            refine lv_goto (tgt := 224) hx hb dX12_deal_219 (by decide) ?_
            exact RI (v := (-15)) hC hP hD hS [3, 0, 1, 2, 4] (jr16689, 3, nI jno, fnw (32 + 6 * jno + 0), fnw (32 + 6 * jno + 2), ip16690, gtrc6691) rfl rfl (by decide) (⟨trivial, by omega⟩) rfl dX12_deal_224
      · refine lv_istore (lv' := [(4, .int 4), (0, .ref h0), (1, .int (nI jt)), (2, .int x2), (3, .int x3)]) hx hb dX12_deal_28 hl (by decide) rfl (fun ls hl => ?_)
        refine lv_iload hx hb dX12_deal_30 (lv_at hl 0 rfl) ?_
        refine lv_if_ge (tgt := 37) hx hb dX12_deal_32 (by decide) (fun _ => ?_) (fun c9 => absurd (by decide) c9)
        refine lv_aload_n hx hb dX12_deal_37 rfl (lv_at hl 1 rfl) ?_
        refine lv_iload hx hb dX12_deal_38 (lv_at hl 0 rfl) ?_
        refine pf_X12_354 hC rfl hK hP hD hS 0 (ws' := [(h0, .inr (12, [.ref nw, .ref nk, .int mhasKept, .ref nt, .int mtaped, .ref nr, .int mrowMany, .int mroundOf, .int mroundFrom, .int mouts, .ref nm, .int mfromHour, .int mtoHour, .ref ns, .int mfrom, .int mto, .int msort, .int misFault, .int mdeep, .int mcoded, .int mlines, .ref nl, .ref nc, .ref nF, .ref np, .ref ntr, .ref nb, .int mbestCost, .ref nso, .ref nsi, .ref nit, .ref nsh, .ref nsf, .ref nss, .ref nrc, .int 0, .int 4, .int mnumber, .int mwhose, .int msize, .int misParted])), (nw, .inl (G.2.1, 1662, .inl fnw)), (nsh, .inl (G.2.1, 4, .inl fnsh)), (nsf, .inl (G.2.1, 4, .inl fnsf)), (nrc, .inl (G.2.1, 30, .inl fnrc))]) rfl (Nat.le_of_ble_eq_true rfl) rfl rfl rfl dX12_deal_40 (fun H locs hP hD hS => ?_)
        refine lv_aload_n hx hb dX12_deal_43 rfl (lv_at hl 1 rfl) ?_
        refine lv_aload_n hx hb dX12_deal_44 rfl (lv_at hl 1 rfl) ?_
        refine gf_X12_75 hC rfl hK hP 0 rfl rfl dX12_deal_45 ?_
        refine lv_iload_n hx hb dX12_deal_48 rfl (lv_at hl 2 rfl) ?_
        refine ald hC hK hP 3 rfl (vp_in_nI (by omega) (by omega)) (k := jt) (nI_clamp (by omega)) (v := fnsf jt) rfl dX12_deal_49 ?_
        refine lv_topi (fun x6694 ex6694 => ?_)
        obtain ⟨hko9, jno, hjno, ejno⟩ := a6588
        refine eqi (x1 := nI jno) (ex6694.trans ejno) ?_
        refine pf_X12_378 hC rfl hK hP hD hS 0 (ws' := [(h0, .inr (12, [.ref nw, .ref nk, .int mhasKept, .ref nt, .int mtaped, .ref nr, .int mrowMany, .int mroundOf, .int mroundFrom, .int mouts, .ref nm, .int mfromHour, .int mtoHour, .ref ns, .int mfrom, .int mto, .int msort, .int misFault, .int mdeep, .int mcoded, .int mlines, .ref nl, .ref nc, .ref nF, .ref np, .ref ntr, .ref nb, .int mbestCost, .ref nso, .ref nsi, .ref nit, .ref nsh, .ref nsf, .ref nss, .ref nrc, .int 0, .int 4, .int (nI jno), .int mwhose, .int msize, .int misParted])), (nw, .inl (G.2.1, 1662, .inl fnw)), (nsh, .inl (G.2.1, 4, .inl fnsh)), (nsf, .inl (G.2.1, 4, .inl fnsf)), (nrc, .inl (G.2.1, 30, .inl fnrc))]) rfl (Nat.le_of_ble_eq_true rfl) rfl rfl rfl dX12_deal_50 (fun H locs hP hD hS => ?_)
        refine lv_aload_n hx hb dX12_deal_53 rfl (lv_at hl 1 rfl) ?_
        refine gf_X12_72 hC rfl hK hP 0 rfl rfl dX12_deal_54 ?_
        refine lv_iload_n hx hb dX12_deal_57 rfl (lv_at hl 2 rfl) ?_
        refine ald hC hK hP 2 rfl (vp_in_nI (by omega) (by omega)) (k := jt) (nI_clamp (by omega)) (v := fnsh jt) rfl dX12_deal_58 ?_
        refine lv_topi (fun x6695 ex6695 => ?_)
        refine lv_iconst (v := 1) hx hb dX12_deal_59 (by decide) ?_
        refine lv_icmp_ne (tgt := 67) hx hb dX12_deal_60 (by decide) (fun _ => ?_) (fun c9 => absurd c9 (fun h9 => absurd (hko9.symm.trans ((ex6695.symm).trans h9)) (by decide)))
        refine lv_iconst (v := 0) hx hb dX12_deal_67 (by decide) ?_
        refine lv_istore (lv' := [(5, .int 0), (4, .int 4), (0, .ref h0), (1, .int (nI jt)), (2, .int x2), (3, .int x3)]) hx hb dX12_deal_68 hl (by decide) rfl (fun ls hl => ?_)
        refine lv_aload_n hx hb dX12_deal_70 rfl (lv_at hl 2 rfl) ?_
        refine gf_X12_72 hC rfl hK hP 0 rfl rfl dX12_deal_71 ?_
        refine lv_iload_n hx hb dX12_deal_74 rfl (lv_at hl 3 rfl) ?_
        refine ald hC hK hP 2 rfl (vp_in_nI (by omega) (by omega)) (k := jt) (nI_clamp (by omega)) (v := fnsh jt) rfl dX12_deal_75 ?_
        refine lv_topi (fun x6696 ex6696 => ?_)
        refine lv_iconst (v := 2) hx hb dX12_deal_76 (by decide) ?_
        refine lv_icmp_ne (tgt := 84) hx hb dX12_deal_77 (by decide) (fun c9 => absurd (ex6696.trans hko9) c9) (fun _ => ?_)
        refine lv_iconst (v := 1) hx hb dX12_deal_80 (by decide) ?_
        refine lv_goto (tgt := 85) hx hb dX12_deal_81 (by decide) ?_
        refine lv_istore (lv' := [(6, .int 1), (5, .int 0), (4, .int 4), (0, .ref h0), (1, .int (nI jt)), (2, .int x2), (3, .int x3)]) hx hb dX12_deal_85 hl (by decide) rfl (fun ls hl => ?_)
        refine lv_aload_n hx hb dX12_deal_87 rfl (lv_at hl 3 rfl) ?_
        refine lv_iload hx hb dX12_deal_88 (lv_at hl 1 rfl) ?_
        refine lv_if_eq (tgt := 105) hx hb dX12_deal_90 (by decide) (fun _ => ?_) (fun c9 => absurd (by decide) c9)
        refine lv_iload hx hb dX12_deal_105 (lv_at hl 0 rfl) ?_
        refine lv_if_eq (tgt := 122) hx hb dX12_deal_107 (by decide) (fun c9 => absurd c9 (by decide)) (fun _ => ?_)
        refine lv_aload_n hx hb dX12_deal_110 rfl (lv_at hl 3 rfl) ?_
        refine lv_aload_n hx hb dX12_deal_111 rfl (lv_at hl 3 rfl) ?_
        refine gf_X12_378 hC rfl hK hP 0 rfl rfl dX12_deal_112 ?_
        refine lv_iconst (v := 0) hx hb dX12_deal_115 (by decide) ?_
        refine pV hC hK hl hP hD (m_saying l G h0 jno 0 nw nk mhasKept nt mtaped nr mrowMany mroundOf mroundFrom mouts nm mfromHour mtoHour ns mfrom mto msort misFault mdeep mcoded mlines nl nc nF np ntr nb mbestCost nso nsi nit nsh nsf nss nrc 0 4 (nI jno) mwhose msize misParted fnw (by omega) (by omega)) si_X12_114 [0, 1] rfl rfl (by decide) rfl rfl rfl rfl rfl (Nat.le_of_ble_eq_true rfl) ⟨Nat.le_of_ble_eq_true rfl, Nat.le_of_ble_eq_true rfl⟩ ⟨by first | exact Nat.le_of_ble_eq_true rfl | exact Nat.zero_le _, by first | exact Nat.le_of_ble_eq_true rfl | exact Nat.zero_le _⟩ dX12_deal_116 (fun r6697 hr6697 => ?_)
        obtain rfl := hr6697
        refine lv_goto (tgt := 139) hx hb dX12_deal_119 (by decide) ?_
        refine pf_X12_375 hC rfl hK hP hD hS 0 (ws' := [(h0, .inr (12, [.ref nw, .ref nk, .int mhasKept, .ref nt, .int mtaped, .ref nr, .int mrowMany, .int mroundOf, .int mroundFrom, .int mouts, .ref nm, .int mfromHour, .int mtoHour, .ref ns, .int mfrom, .int mto, .int msort, .int misFault, .int mdeep, .int mcoded, .int mlines, .ref nl, .ref nc, .ref nF, .ref np, .ref ntr, .ref nb, .int mbestCost, .ref nso, .ref nsi, .ref nit, .ref nsh, .ref nsf, .ref nss, .ref nrc, .int 0, .int 4, .int (nI jno), .int (fnw (1424 + 8 * jno + 0)), .int msize, .int misParted])), (nw, .inl (G.2.1, 1662, .inl fnw)), (nsh, .inl (G.2.1, 4, .inl fnsh)), (nsf, .inl (G.2.1, 4, .inl fnsf)), (nrc, .inl (G.2.1, 30, .inl fnrc))]) rfl (Nat.le_of_ble_eq_true rfl) rfl rfl rfl dX12_deal_139 (fun H locs hP hD hS => ?_)
        refine lv_aload_n hx hb dX12_deal_142 rfl (lv_at hl 3 rfl) ?_
        refine lv_iload hx hb dX12_deal_143 (lv_at hl 1 rfl) ?_
        refine lv_if_eq (tgt := 160) hx hb dX12_deal_145 (by decide) (fun _ => ?_) (fun c9 => absurd (by decide) c9)
        refine lv_iload hx hb dX12_deal_160 (lv_at hl 0 rfl) ?_
        refine lv_if_eq (tgt := 177) hx hb dX12_deal_162 (by decide) (fun c9 => absurd c9 (by decide)) (fun _ => ?_)
        refine lv_aload_n hx hb dX12_deal_165 rfl (lv_at hl 3 rfl) ?_
        refine lv_aload_n hx hb dX12_deal_166 rfl (lv_at hl 3 rfl) ?_
        refine gf_X12_378 hC rfl hK hP 0 rfl rfl dX12_deal_167 ?_
        refine lv_iconst (v := 4) hx hb dX12_deal_170 (by decide) ?_
        refine pV hC hK hl hP hD (m_saying l G h0 jno 4 nw nk mhasKept nt mtaped nr mrowMany mroundOf mroundFrom mouts nm mfromHour mtoHour ns mfrom mto msort misFault mdeep mcoded mlines nl nc nF np ntr nb mbestCost nso nsi nit nsh nsf nss nrc 0 4 (nI jno) (fnw (1424 + 8 * jno + 0)) msize misParted fnw (by omega) (by omega)) si_X12_114 [0, 1] rfl rfl (by decide) rfl rfl rfl rfl rfl (Nat.le_of_ble_eq_true rfl) ⟨Nat.le_of_ble_eq_true rfl, Nat.le_of_ble_eq_true rfl⟩ ⟨by first | exact Nat.le_of_ble_eq_true rfl | exact Nat.zero_le _, by first | exact Nat.le_of_ble_eq_true rfl | exact Nat.zero_le _⟩ dX12_deal_171 (fun r6699 hr6699 => ?_)
        obtain rfl := hr6699
        refine lv_goto (tgt := 194) hx hb dX12_deal_174 (by decide) ?_
        refine pf_X12_369 hC rfl hK hP hD hS 0 (ws' := [(h0, .inr (12, [.ref nw, .ref nk, .int mhasKept, .ref nt, .int mtaped, .ref nr, .int mrowMany, .int mroundOf, .int mroundFrom, .int mouts, .ref nm, .int mfromHour, .int mtoHour, .ref ns, .int mfrom, .int mto, .int msort, .int misFault, .int mdeep, .int mcoded, .int mlines, .ref nl, .ref nc, .ref nF, .ref np, .ref ntr, .ref nb, .int mbestCost, .ref nso, .ref nsi, .ref nit, .ref nsh, .ref nsf, .ref nss, .ref nrc, .int 0, .int 4, .int (nI jno), .int (fnw (1424 + 8 * jno + 0)), .int (fnw (1424 + 8 * jno + 4)), .int misParted])), (nw, .inl (G.2.1, 1662, .inl fnw)), (nsh, .inl (G.2.1, 4, .inl fnsh)), (nsf, .inl (G.2.1, 4, .inl fnsf)), (nrc, .inl (G.2.1, 30, .inl fnrc))]) rfl (Nat.le_of_ble_eq_true rfl) rfl rfl rfl dX12_deal_194 (fun H locs hP hD hS => ?_)
        refine lv_aload_n hx hb dX12_deal_197 rfl (lv_at hl 3 rfl) ?_
        refine lv_iconst (v := 0) hx hb dX12_deal_198 (by decide) ?_
        refine pf_X12_380 hC rfl hK hP hD hS 0 (ws' := [(h0, .inr (12, [.ref nw, .ref nk, .int mhasKept, .ref nt, .int mtaped, .ref nr, .int mrowMany, .int mroundOf, .int mroundFrom, .int mouts, .ref nm, .int mfromHour, .int mtoHour, .ref ns, .int mfrom, .int mto, .int msort, .int misFault, .int mdeep, .int mcoded, .int mlines, .ref nl, .ref nc, .ref nF, .ref np, .ref ntr, .ref nb, .int mbestCost, .ref nso, .ref nsi, .ref nit, .ref nsh, .ref nsf, .ref nss, .ref nrc, .int 0, .int 4, .int (nI jno), .int (fnw (1424 + 8 * jno + 0)), .int (fnw (1424 + 8 * jno + 4)), .int 0])), (nw, .inl (G.2.1, 1662, .inl fnw)), (nsh, .inl (G.2.1, 4, .inl fnsh)), (nsf, .inl (G.2.1, 4, .inl fnsf)), (nrc, .inl (G.2.1, 30, .inl fnrc))]) rfl (Nat.le_of_ble_eq_true rfl) rfl (by decide +kernel) (by decide +kernel) dX12_deal_199 (fun H locs hP hD hS => ?_)
        obtain ⟨jdl, hjdl, rfl⟩ := Wi_nat (N := 3) (by decide) a6586
        rcases (show jdl = 0 ∨ jdl = 1 ∨ jdl = 2 ∨ jdl = 3 by omega) with rfl | rfl | rfl | rfl
        · refine lv_aload_n hx hb dX12_deal_202 rfl (lv_at hl 3 rfl) ?_
          refine lv_iload_n hx hb dX12_deal_203 rfl (lv_at hl 5 rfl) ?_
          refine lv_iload_n hx hb dX12_deal_204 rfl (lv_at hl 6 rfl) ?_
          refine iV (wr := [(nw, .inl (G.2.1, 1662, .inl fnw)), (nsh, .inl (G.2.1, 4, .inl fnsh)), (nsf, .inl (G.2.1, 4, .inl fnsf))]) hC hK hl hP hD hS hA (m_dealt0 l G h0 x3 nw nk mhasKept nt mtaped nr mrowMany mroundOf mroundFrom mouts nm mfromHour mtoHour ns mfrom mto msort misFault mdeep mcoded mlines nl nc nF np ntr nb mbestCost nso nsi nit nsh nsf nss nrc 0 4 (nI jno) (fnw (1424 + 8 * jno + 0)) (fnw (1424 + 8 * jno + 4)) 0 fnrc (by omega) (by omega)) si_X12_372 [0, 4] [1, 2, 3] rfl rfl (by decide) rfl (by decide) (by decide) rfl rfl rfl rfl rfl (Nat.le_of_ble_eq_true rfl) ⟨Nat.le_of_ble_eq_true rfl, Nat.le_of_ble_eq_true rfl⟩ ⟨Nat.le_of_ble_eq_true rfl, Nat.le_of_ble_eq_true rfl⟩ dX12_deal_205 (fun r6701 u6702 H locs hr6701 hP hD hS => ?_)
          obtain ⟨jr16703, ip16704, gtrc6705⟩ := u6702
          try dsimp only at hr6701
          have hP : va_P G.1 vwCl [(nw, .inl (G.2.1, 1662, .inl fnw)), (nsh, .inl (G.2.1, 4, .inl fnsh)), (nsf, .inl (G.2.1, 4, .inl fnsf)), (h0, .inr (12, [.ref nw, .ref nk, .int mhasKept, .ref nt, .int mtaped, .ref nr, .int mrowMany, .int mroundOf, .int mroundFrom, .int mouts, .ref nm, .int mfromHour, .int mtoHour, .ref ns, .int mfrom, .int mto, .int msort, .int misFault, .int mdeep, .int mcoded, .int mlines, .ref nl, .ref nc, .ref nF, .ref np, .ref ntr, .ref nb, .int mbestCost, .ref nso, .ref nsi, .ref nit, .ref nsh, .ref nsf, .ref nss, .ref nrc, .int (nI jr16703), .int 4, .int (nI jno), .int (fnw (1424 + 8 * jno + 0)), .int (fnw (1424 + 8 * jno + 4)), .int ip16704])), (nrc, .inl (G.2.1, 30, .inl gtrc6705))] H := hP
          have hD : va_D A [(nw, .inl (G.2.1, 1662, .inl fnw)), (nsh, .inl (G.2.1, 4, .inl fnsh)), (nsf, .inl (G.2.1, 4, .inl fnsf)), (h0, .inr (12, [.ref nw, .ref nk, .int mhasKept, .ref nt, .int mtaped, .ref nr, .int mrowMany, .int mroundOf, .int mroundFrom, .int mouts, .ref nm, .int mfromHour, .int mtoHour, .ref ns, .int mfrom, .int mto, .int msort, .int misFault, .int mdeep, .int mcoded, .int mlines, .ref nl, .ref nc, .ref nF, .ref np, .ref ntr, .ref nb, .int mbestCost, .ref nso, .ref nsi, .ref nit, .ref nsh, .ref nsf, .ref nss, .ref nrc, .int (nI jr16703), .int 4, .int (nI jno), .int (fnw (1424 + 8 * jno + 0)), .int (fnw (1424 + 8 * jno + 4)), .int ip16704])), (nrc, .inl (G.2.1, 30, .inl gtrc6705))] := hD
          obtain ⟨hr6701, w6706⟩ := hr6701
          refine lv_istore (lv' := [(7, .int r6701), (6, .int 1), (5, .int 0), (4, .int 4), (0, .ref h0), (1, .int (nI jt)), (2, .int 0), (3, .int x3)]) hx hb dX12_deal_208 hl (by decide) rfl (fun ls hl => ?_)
          refine lv_aload_n hx hb dX12_deal_210 rfl (lv_at hl 4 rfl) ?_
          refine gf_X12_380 hC rfl hK hP 3 rfl rfl dX12_deal_211 ?_
          refine lv_if_eq (tgt := 222) hx hb dX12_deal_214 (by decide) (fun c_214_6707 => ?_) (fun c_214_6707 => ?_)
          · refine lv_iload hx hb dX12_deal_222 (lv_at hl 0 rfl) ?_
            exact RI (v := r6701) hC hP hD hS [3, 0, 1, 2, 4] (jr16703, 4, nI jno, fnw (1424 + 8 * jno + 0), fnw (1424 + 8 * jno + 4), ip16704, gtrc6705) rfl rfl (by decide) (⟨trivial, by omega⟩) rfl dX12_deal_224
          · refine lv_bipush (v := (-15)) hx hb dX12_deal_217 (by decide) ?_
            refine lv_goto (tgt := 224) hx hb dX12_deal_219 (by decide) ?_
            exact RI (v := (-15)) hC hP hD hS [3, 0, 1, 2, 4] (jr16703, 4, nI jno, fnw (1424 + 8 * jno + 0), fnw (1424 + 8 * jno + 4), ip16704, gtrc6705) rfl rfl (by decide) (⟨trivial, by omega⟩) rfl dX12_deal_224
        · refine lv_aload_n hx hb dX12_deal_202 rfl (lv_at hl 3 rfl) ?_
          refine lv_iload_n hx hb dX12_deal_203 rfl (lv_at hl 5 rfl) ?_
          refine lv_iload_n hx hb dX12_deal_204 rfl (lv_at hl 6 rfl) ?_
          refine iV (wr := [(nw, .inl (G.2.1, 1662, .inl fnw)), (nsh, .inl (G.2.1, 4, .inl fnsh)), (nsf, .inl (G.2.1, 4, .inl fnsf))]) hC hK hl hP hD hS hA (m_dealt1 l G h0 x3 nw nk mhasKept nt mtaped nr mrowMany mroundOf mroundFrom mouts nm mfromHour mtoHour ns mfrom mto msort misFault mdeep mcoded mlines nl nc nF np ntr nb mbestCost nso nsi nit nsh nsf nss nrc 0 4 (nI jno) (fnw (1424 + 8 * jno + 0)) (fnw (1424 + 8 * jno + 4)) 0 fnrc (by omega) (by omega)) si_X12_372 [0, 4] [1, 2, 3] rfl rfl (by decide) rfl (by decide) (by decide) rfl rfl rfl rfl rfl (Nat.le_of_ble_eq_true rfl) ⟨Nat.le_of_ble_eq_true rfl, Nat.le_of_ble_eq_true rfl⟩ ⟨Nat.le_of_ble_eq_true rfl, Nat.le_of_ble_eq_true rfl⟩ dX12_deal_205 (fun r6708 u6709 H locs hr6708 hP hD hS => ?_)
          obtain ⟨jr16710, ip16711, gtrc6712⟩ := u6709
          try dsimp only at hr6708
          have hP : va_P G.1 vwCl [(nw, .inl (G.2.1, 1662, .inl fnw)), (nsh, .inl (G.2.1, 4, .inl fnsh)), (nsf, .inl (G.2.1, 4, .inl fnsf)), (h0, .inr (12, [.ref nw, .ref nk, .int mhasKept, .ref nt, .int mtaped, .ref nr, .int mrowMany, .int mroundOf, .int mroundFrom, .int mouts, .ref nm, .int mfromHour, .int mtoHour, .ref ns, .int mfrom, .int mto, .int msort, .int misFault, .int mdeep, .int mcoded, .int mlines, .ref nl, .ref nc, .ref nF, .ref np, .ref ntr, .ref nb, .int mbestCost, .ref nso, .ref nsi, .ref nit, .ref nsh, .ref nsf, .ref nss, .ref nrc, .int (nI jr16710), .int 4, .int (nI jno), .int (fnw (1424 + 8 * jno + 0)), .int (fnw (1424 + 8 * jno + 4)), .int ip16711])), (nrc, .inl (G.2.1, 30, .inl gtrc6712))] H := hP
          have hD : va_D A [(nw, .inl (G.2.1, 1662, .inl fnw)), (nsh, .inl (G.2.1, 4, .inl fnsh)), (nsf, .inl (G.2.1, 4, .inl fnsf)), (h0, .inr (12, [.ref nw, .ref nk, .int mhasKept, .ref nt, .int mtaped, .ref nr, .int mrowMany, .int mroundOf, .int mroundFrom, .int mouts, .ref nm, .int mfromHour, .int mtoHour, .ref ns, .int mfrom, .int mto, .int msort, .int misFault, .int mdeep, .int mcoded, .int mlines, .ref nl, .ref nc, .ref nF, .ref np, .ref ntr, .ref nb, .int mbestCost, .ref nso, .ref nsi, .ref nit, .ref nsh, .ref nsf, .ref nss, .ref nrc, .int (nI jr16710), .int 4, .int (nI jno), .int (fnw (1424 + 8 * jno + 0)), .int (fnw (1424 + 8 * jno + 4)), .int ip16711])), (nrc, .inl (G.2.1, 30, .inl gtrc6712))] := hD
          obtain ⟨hr6708, w6713⟩ := hr6708
          refine lv_istore (lv' := [(7, .int r6708), (6, .int 1), (5, .int 0), (4, .int 4), (0, .ref h0), (1, .int (nI jt)), (2, .int 1), (3, .int x3)]) hx hb dX12_deal_208 hl (by decide) rfl (fun ls hl => ?_)
          refine lv_aload_n hx hb dX12_deal_210 rfl (lv_at hl 4 rfl) ?_
          refine gf_X12_380 hC rfl hK hP 3 rfl rfl dX12_deal_211 ?_
          refine lv_if_eq (tgt := 222) hx hb dX12_deal_214 (by decide) (fun c_214_6714 => ?_) (fun c_214_6714 => ?_)
          · refine lv_iload hx hb dX12_deal_222 (lv_at hl 0 rfl) ?_
            exact RI (v := r6708) hC hP hD hS [3, 0, 1, 2, 4] (jr16710, 4, nI jno, fnw (1424 + 8 * jno + 0), fnw (1424 + 8 * jno + 4), ip16711, gtrc6712) rfl rfl (by decide) (⟨trivial, by omega⟩) rfl dX12_deal_224
          · refine lv_bipush (v := (-15)) hx hb dX12_deal_217 (by decide) ?_
            refine lv_goto (tgt := 224) hx hb dX12_deal_219 (by decide) ?_
            exact RI (v := (-15)) hC hP hD hS [3, 0, 1, 2, 4] (jr16710, 4, nI jno, fnw (1424 + 8 * jno + 0), fnw (1424 + 8 * jno + 4), ip16711, gtrc6712) rfl rfl (by decide) (⟨trivial, by omega⟩) rfl dX12_deal_224
        · refine lv_aload_n hx hb dX12_deal_202 rfl (lv_at hl 3 rfl) ?_
          refine lv_iload_n hx hb dX12_deal_203 rfl (lv_at hl 5 rfl) ?_
          refine lv_iload_n hx hb dX12_deal_204 rfl (lv_at hl 6 rfl) ?_
          refine iV (wr := [(nw, .inl (G.2.1, 1662, .inl fnw)), (nsh, .inl (G.2.1, 4, .inl fnsh)), (nsf, .inl (G.2.1, 4, .inl fnsf))]) hC hK hl hP hD hS hA (m_dealt2 l G h0 x3 nw nk mhasKept nt mtaped nr mrowMany mroundOf mroundFrom mouts nm mfromHour mtoHour ns mfrom mto msort misFault mdeep mcoded mlines nl nc nF np ntr nb mbestCost nso nsi nit nsh nsf nss nrc 0 4 (nI jno) (fnw (1424 + 8 * jno + 0)) (fnw (1424 + 8 * jno + 4)) 0 fnrc (by omega) (by omega)) si_X12_372 [0, 4] [1, 2, 3] rfl rfl (by decide) rfl (by decide) (by decide) rfl rfl rfl rfl rfl (Nat.le_of_ble_eq_true rfl) ⟨Nat.le_of_ble_eq_true rfl, Nat.le_of_ble_eq_true rfl⟩ ⟨Nat.le_of_ble_eq_true rfl, Nat.le_of_ble_eq_true rfl⟩ dX12_deal_205 (fun r6715 u6716 H locs hr6715 hP hD hS => ?_)
          obtain ⟨jr16717, ip16718, gtrc6719⟩ := u6716
          try dsimp only at hr6715
          have hP : va_P G.1 vwCl [(nw, .inl (G.2.1, 1662, .inl fnw)), (nsh, .inl (G.2.1, 4, .inl fnsh)), (nsf, .inl (G.2.1, 4, .inl fnsf)), (h0, .inr (12, [.ref nw, .ref nk, .int mhasKept, .ref nt, .int mtaped, .ref nr, .int mrowMany, .int mroundOf, .int mroundFrom, .int mouts, .ref nm, .int mfromHour, .int mtoHour, .ref ns, .int mfrom, .int mto, .int msort, .int misFault, .int mdeep, .int mcoded, .int mlines, .ref nl, .ref nc, .ref nF, .ref np, .ref ntr, .ref nb, .int mbestCost, .ref nso, .ref nsi, .ref nit, .ref nsh, .ref nsf, .ref nss, .ref nrc, .int (nI jr16717), .int 4, .int (nI jno), .int (fnw (1424 + 8 * jno + 0)), .int (fnw (1424 + 8 * jno + 4)), .int ip16718])), (nrc, .inl (G.2.1, 30, .inl gtrc6719))] H := hP
          have hD : va_D A [(nw, .inl (G.2.1, 1662, .inl fnw)), (nsh, .inl (G.2.1, 4, .inl fnsh)), (nsf, .inl (G.2.1, 4, .inl fnsf)), (h0, .inr (12, [.ref nw, .ref nk, .int mhasKept, .ref nt, .int mtaped, .ref nr, .int mrowMany, .int mroundOf, .int mroundFrom, .int mouts, .ref nm, .int mfromHour, .int mtoHour, .ref ns, .int mfrom, .int mto, .int msort, .int misFault, .int mdeep, .int mcoded, .int mlines, .ref nl, .ref nc, .ref nF, .ref np, .ref ntr, .ref nb, .int mbestCost, .ref nso, .ref nsi, .ref nit, .ref nsh, .ref nsf, .ref nss, .ref nrc, .int (nI jr16717), .int 4, .int (nI jno), .int (fnw (1424 + 8 * jno + 0)), .int (fnw (1424 + 8 * jno + 4)), .int ip16718])), (nrc, .inl (G.2.1, 30, .inl gtrc6719))] := hD
          obtain ⟨hr6715, w6720⟩ := hr6715
          refine lv_istore (lv' := [(7, .int r6715), (6, .int 1), (5, .int 0), (4, .int 4), (0, .ref h0), (1, .int (nI jt)), (2, .int 2), (3, .int x3)]) hx hb dX12_deal_208 hl (by decide) rfl (fun ls hl => ?_)
          refine lv_aload_n hx hb dX12_deal_210 rfl (lv_at hl 4 rfl) ?_
          refine gf_X12_380 hC rfl hK hP 3 rfl rfl dX12_deal_211 ?_
          refine lv_if_eq (tgt := 222) hx hb dX12_deal_214 (by decide) (fun c_214_6721 => ?_) (fun c_214_6721 => ?_)
          · refine lv_iload hx hb dX12_deal_222 (lv_at hl 0 rfl) ?_
            exact RI (v := r6715) hC hP hD hS [3, 0, 1, 2, 4] (jr16717, 4, nI jno, fnw (1424 + 8 * jno + 0), fnw (1424 + 8 * jno + 4), ip16718, gtrc6719) rfl rfl (by decide) (⟨trivial, by omega⟩) rfl dX12_deal_224
          · refine lv_bipush (v := (-15)) hx hb dX12_deal_217 (by decide) ?_
            refine lv_goto (tgt := 224) hx hb dX12_deal_219 (by decide) ?_
            exact RI (v := (-15)) hC hP hD hS [3, 0, 1, 2, 4] (jr16717, 4, nI jno, fnw (1424 + 8 * jno + 0), fnw (1424 + 8 * jno + 4), ip16718, gtrc6719) rfl rfl (by decide) (⟨trivial, by omega⟩) rfl dX12_deal_224
        · refine lv_aload_n hx hb dX12_deal_202 rfl (lv_at hl 3 rfl) ?_
          refine lv_iload_n hx hb dX12_deal_203 rfl (lv_at hl 5 rfl) ?_
          refine lv_iload_n hx hb dX12_deal_204 rfl (lv_at hl 6 rfl) ?_
          refine iV (wr := [(nw, .inl (G.2.1, 1662, .inl fnw)), (nsh, .inl (G.2.1, 4, .inl fnsh)), (nsf, .inl (G.2.1, 4, .inl fnsf))]) hC hK hl hP hD hS hA (m_dealt3 l G h0 x3 nw nk mhasKept nt mtaped nr mrowMany mroundOf mroundFrom mouts nm mfromHour mtoHour ns mfrom mto msort misFault mdeep mcoded mlines nl nc nF np ntr nb mbestCost nso nsi nit nsh nsf nss nrc 0 4 (nI jno) (fnw (1424 + 8 * jno + 0)) (fnw (1424 + 8 * jno + 4)) 0 fnrc (by omega) (by omega)) si_X12_372 [0, 4] [1, 2, 3] rfl rfl (by decide) rfl (by decide) (by decide) rfl rfl rfl rfl rfl (Nat.le_of_ble_eq_true rfl) ⟨Nat.le_of_ble_eq_true rfl, Nat.le_of_ble_eq_true rfl⟩ ⟨Nat.le_of_ble_eq_true rfl, Nat.le_of_ble_eq_true rfl⟩ dX12_deal_205 (fun r6722 u6723 H locs hr6722 hP hD hS => ?_)
          obtain ⟨jr16724, ip16725, gtrc6726⟩ := u6723
          try dsimp only at hr6722
          have hP : va_P G.1 vwCl [(nw, .inl (G.2.1, 1662, .inl fnw)), (nsh, .inl (G.2.1, 4, .inl fnsh)), (nsf, .inl (G.2.1, 4, .inl fnsf)), (h0, .inr (12, [.ref nw, .ref nk, .int mhasKept, .ref nt, .int mtaped, .ref nr, .int mrowMany, .int mroundOf, .int mroundFrom, .int mouts, .ref nm, .int mfromHour, .int mtoHour, .ref ns, .int mfrom, .int mto, .int msort, .int misFault, .int mdeep, .int mcoded, .int mlines, .ref nl, .ref nc, .ref nF, .ref np, .ref ntr, .ref nb, .int mbestCost, .ref nso, .ref nsi, .ref nit, .ref nsh, .ref nsf, .ref nss, .ref nrc, .int (nI jr16724), .int 4, .int (nI jno), .int (fnw (1424 + 8 * jno + 0)), .int (fnw (1424 + 8 * jno + 4)), .int ip16725])), (nrc, .inl (G.2.1, 30, .inl gtrc6726))] H := hP
          have hD : va_D A [(nw, .inl (G.2.1, 1662, .inl fnw)), (nsh, .inl (G.2.1, 4, .inl fnsh)), (nsf, .inl (G.2.1, 4, .inl fnsf)), (h0, .inr (12, [.ref nw, .ref nk, .int mhasKept, .ref nt, .int mtaped, .ref nr, .int mrowMany, .int mroundOf, .int mroundFrom, .int mouts, .ref nm, .int mfromHour, .int mtoHour, .ref ns, .int mfrom, .int mto, .int msort, .int misFault, .int mdeep, .int mcoded, .int mlines, .ref nl, .ref nc, .ref nF, .ref np, .ref ntr, .ref nb, .int mbestCost, .ref nso, .ref nsi, .ref nit, .ref nsh, .ref nsf, .ref nss, .ref nrc, .int (nI jr16724), .int 4, .int (nI jno), .int (fnw (1424 + 8 * jno + 0)), .int (fnw (1424 + 8 * jno + 4)), .int ip16725])), (nrc, .inl (G.2.1, 30, .inl gtrc6726))] := hD
          obtain ⟨hr6722, w6727⟩ := hr6722
          refine lv_istore (lv' := [(7, .int r6722), (6, .int 1), (5, .int 0), (4, .int 4), (0, .ref h0), (1, .int (nI jt)), (2, .int 3), (3, .int x3)]) hx hb dX12_deal_208 hl (by decide) rfl (fun ls hl => ?_)
          refine lv_aload_n hx hb dX12_deal_210 rfl (lv_at hl 4 rfl) ?_
          refine gf_X12_380 hC rfl hK hP 3 rfl rfl dX12_deal_211 ?_
          refine lv_if_eq (tgt := 222) hx hb dX12_deal_214 (by decide) (fun c_214_6728 => ?_) (fun c_214_6728 => ?_)
          · refine lv_iload hx hb dX12_deal_222 (lv_at hl 0 rfl) ?_
            exact RI (v := r6722) hC hP hD hS [3, 0, 1, 2, 4] (jr16724, 4, nI jno, fnw (1424 + 8 * jno + 0), fnw (1424 + 8 * jno + 4), ip16725, gtrc6726) rfl rfl (by decide) (⟨trivial, by omega⟩) rfl dX12_deal_224
          · refine lv_bipush (v := (-15)) hx hb dX12_deal_217 (by decide) ?_
            refine lv_goto (tgt := 224) hx hb dX12_deal_219 (by decide) ?_
            exact RI (v := (-15)) hC hP hD hS [3, 0, 1, 2, 4] (jr16724, 4, nI jno, fnw (1424 + 8 * jno + 0), fnw (1424 + 8 * jno + 4), ip16725, gtrc6726) rfl rfl (by decide) (⟨trivial, by omega⟩) rfl dX12_deal_224
      · refine lv_istore (lv' := [(4, .int 5), (0, .ref h0), (1, .int (nI jt)), (2, .int x2), (3, .int x3)]) hx hb dX12_deal_28 hl (by decide) rfl (fun ls hl => ?_)
        refine lv_iload hx hb dX12_deal_30 (lv_at hl 0 rfl) ?_
        refine lv_if_ge (tgt := 37) hx hb dX12_deal_32 (by decide) (fun _ => ?_) (fun c9 => absurd (by decide) c9)
        refine lv_aload_n hx hb dX12_deal_37 rfl (lv_at hl 1 rfl) ?_
        refine lv_iload hx hb dX12_deal_38 (lv_at hl 0 rfl) ?_
        refine pf_X12_354 hC rfl hK hP hD hS 0 (ws' := [(h0, .inr (12, [.ref nw, .ref nk, .int mhasKept, .ref nt, .int mtaped, .ref nr, .int mrowMany, .int mroundOf, .int mroundFrom, .int mouts, .ref nm, .int mfromHour, .int mtoHour, .ref ns, .int mfrom, .int mto, .int msort, .int misFault, .int mdeep, .int mcoded, .int mlines, .ref nl, .ref nc, .ref nF, .ref np, .ref ntr, .ref nb, .int mbestCost, .ref nso, .ref nsi, .ref nit, .ref nsh, .ref nsf, .ref nss, .ref nrc, .int 0, .int 5, .int mnumber, .int mwhose, .int msize, .int misParted])), (nw, .inl (G.2.1, 1662, .inl fnw)), (nsh, .inl (G.2.1, 4, .inl fnsh)), (nsf, .inl (G.2.1, 4, .inl fnsf)), (nrc, .inl (G.2.1, 30, .inl fnrc))]) rfl (Nat.le_of_ble_eq_true rfl) rfl rfl rfl dX12_deal_40 (fun H locs hP hD hS => ?_)
        refine lv_aload_n hx hb dX12_deal_43 rfl (lv_at hl 1 rfl) ?_
        refine lv_aload_n hx hb dX12_deal_44 rfl (lv_at hl 1 rfl) ?_
        refine gf_X12_75 hC rfl hK hP 0 rfl rfl dX12_deal_45 ?_
        refine lv_iload_n hx hb dX12_deal_48 rfl (lv_at hl 2 rfl) ?_
        refine ald hC hK hP 3 rfl (vp_in_nI (by omega) (by omega)) (k := jt) (nI_clamp (by omega)) (v := fnsf jt) rfl dX12_deal_49 ?_
        refine lv_topi (fun x6729 ex6729 => ?_)
        obtain ⟨hko9, jno, hjno, ejno⟩ := a6588
        refine eqi (x1 := nI jno) (ex6729.trans ejno) ?_
        refine pf_X12_378 hC rfl hK hP hD hS 0 (ws' := [(h0, .inr (12, [.ref nw, .ref nk, .int mhasKept, .ref nt, .int mtaped, .ref nr, .int mrowMany, .int mroundOf, .int mroundFrom, .int mouts, .ref nm, .int mfromHour, .int mtoHour, .ref ns, .int mfrom, .int mto, .int msort, .int misFault, .int mdeep, .int mcoded, .int mlines, .ref nl, .ref nc, .ref nF, .ref np, .ref ntr, .ref nb, .int mbestCost, .ref nso, .ref nsi, .ref nit, .ref nsh, .ref nsf, .ref nss, .ref nrc, .int 0, .int 5, .int (nI jno), .int mwhose, .int msize, .int misParted])), (nw, .inl (G.2.1, 1662, .inl fnw)), (nsh, .inl (G.2.1, 4, .inl fnsh)), (nsf, .inl (G.2.1, 4, .inl fnsf)), (nrc, .inl (G.2.1, 30, .inl fnrc))]) rfl (Nat.le_of_ble_eq_true rfl) rfl rfl rfl dX12_deal_50 (fun H locs hP hD hS => ?_)
        refine lv_aload_n hx hb dX12_deal_53 rfl (lv_at hl 1 rfl) ?_
        refine gf_X12_72 hC rfl hK hP 0 rfl rfl dX12_deal_54 ?_
        refine lv_iload_n hx hb dX12_deal_57 rfl (lv_at hl 2 rfl) ?_
        refine ald hC hK hP 2 rfl (vp_in_nI (by omega) (by omega)) (k := jt) (nI_clamp (by omega)) (v := fnsh jt) rfl dX12_deal_58 ?_
        refine lv_topi (fun x6730 ex6730 => ?_)
        refine lv_iconst (v := 1) hx hb dX12_deal_59 (by decide) ?_
        refine lv_icmp_ne (tgt := 67) hx hb dX12_deal_60 (by decide) (fun _ => ?_) (fun c9 => absurd c9 (fun h9 => absurd (hko9.symm.trans ((ex6730.symm).trans h9)) (by decide)))
        refine lv_iconst (v := 0) hx hb dX12_deal_67 (by decide) ?_
        refine lv_istore (lv' := [(5, .int 0), (4, .int 5), (0, .ref h0), (1, .int (nI jt)), (2, .int x2), (3, .int x3)]) hx hb dX12_deal_68 hl (by decide) rfl (fun ls hl => ?_)
        refine lv_aload_n hx hb dX12_deal_70 rfl (lv_at hl 2 rfl) ?_
        refine gf_X12_72 hC rfl hK hP 0 rfl rfl dX12_deal_71 ?_
        refine lv_iload_n hx hb dX12_deal_74 rfl (lv_at hl 3 rfl) ?_
        refine ald hC hK hP 2 rfl (vp_in_nI (by omega) (by omega)) (k := jt) (nI_clamp (by omega)) (v := fnsh jt) rfl dX12_deal_75 ?_
        refine lv_topi (fun x6731 ex6731 => ?_)
        refine lv_iconst (v := 2) hx hb dX12_deal_76 (by decide) ?_
        refine lv_icmp_ne (tgt := 84) hx hb dX12_deal_77 (by decide) (fun c9 => absurd (ex6731.trans hko9) c9) (fun _ => ?_)
        refine lv_iconst (v := 1) hx hb dX12_deal_80 (by decide) ?_
        refine lv_goto (tgt := 85) hx hb dX12_deal_81 (by decide) ?_
        refine lv_istore (lv' := [(6, .int 1), (5, .int 0), (4, .int 5), (0, .ref h0), (1, .int (nI jt)), (2, .int x2), (3, .int x3)]) hx hb dX12_deal_85 hl (by decide) rfl (fun ls hl => ?_)
        refine lv_aload_n hx hb dX12_deal_87 rfl (lv_at hl 3 rfl) ?_
        refine lv_iload hx hb dX12_deal_88 (lv_at hl 1 rfl) ?_
        refine lv_if_eq (tgt := 105) hx hb dX12_deal_90 (by decide) (fun _ => ?_) (fun c9 => absurd (by decide) c9)
        refine lv_iload hx hb dX12_deal_105 (lv_at hl 0 rfl) ?_
        refine lv_if_eq (tgt := 122) hx hb dX12_deal_107 (by decide) (fun c9 => absurd c9 (by decide)) (fun _ => ?_)
        refine lv_aload_n hx hb dX12_deal_110 rfl (lv_at hl 3 rfl) ?_
        refine lv_aload_n hx hb dX12_deal_111 rfl (lv_at hl 3 rfl) ?_
        refine gf_X12_378 hC rfl hK hP 0 rfl rfl dX12_deal_112 ?_
        refine lv_iconst (v := 0) hx hb dX12_deal_115 (by decide) ?_
        refine pV hC hK hl hP hD (m_saying l G h0 jno 0 nw nk mhasKept nt mtaped nr mrowMany mroundOf mroundFrom mouts nm mfromHour mtoHour ns mfrom mto msort misFault mdeep mcoded mlines nl nc nF np ntr nb mbestCost nso nsi nit nsh nsf nss nrc 0 5 (nI jno) mwhose msize misParted fnw (by omega) (by omega)) si_X12_114 [0, 1] rfl rfl (by decide) rfl rfl rfl rfl rfl (Nat.le_of_ble_eq_true rfl) ⟨Nat.le_of_ble_eq_true rfl, Nat.le_of_ble_eq_true rfl⟩ ⟨by first | exact Nat.le_of_ble_eq_true rfl | exact Nat.zero_le _, by first | exact Nat.le_of_ble_eq_true rfl | exact Nat.zero_le _⟩ dX12_deal_116 (fun r6732 hr6732 => ?_)
        obtain rfl := hr6732
        refine lv_goto (tgt := 139) hx hb dX12_deal_119 (by decide) ?_
        refine pf_X12_375 hC rfl hK hP hD hS 0 (ws' := [(h0, .inr (12, [.ref nw, .ref nk, .int mhasKept, .ref nt, .int mtaped, .ref nr, .int mrowMany, .int mroundOf, .int mroundFrom, .int mouts, .ref nm, .int mfromHour, .int mtoHour, .ref ns, .int mfrom, .int mto, .int msort, .int misFault, .int mdeep, .int mcoded, .int mlines, .ref nl, .ref nc, .ref nF, .ref np, .ref ntr, .ref nb, .int mbestCost, .ref nso, .ref nsi, .ref nit, .ref nsh, .ref nsf, .ref nss, .ref nrc, .int 0, .int 5, .int (nI jno), .int (fnw (1424 + 8 * jno + 0)), .int msize, .int misParted])), (nw, .inl (G.2.1, 1662, .inl fnw)), (nsh, .inl (G.2.1, 4, .inl fnsh)), (nsf, .inl (G.2.1, 4, .inl fnsf)), (nrc, .inl (G.2.1, 30, .inl fnrc))]) rfl (Nat.le_of_ble_eq_true rfl) rfl rfl rfl dX12_deal_139 (fun H locs hP hD hS => ?_)
        refine lv_aload_n hx hb dX12_deal_142 rfl (lv_at hl 3 rfl) ?_
        refine lv_iload hx hb dX12_deal_143 (lv_at hl 1 rfl) ?_
        refine lv_if_eq (tgt := 160) hx hb dX12_deal_145 (by decide) (fun _ => ?_) (fun c9 => absurd (by decide) c9)
        refine lv_iload hx hb dX12_deal_160 (lv_at hl 0 rfl) ?_
        refine lv_if_eq (tgt := 177) hx hb dX12_deal_162 (by decide) (fun c9 => absurd c9 (by decide)) (fun _ => ?_)
        refine lv_aload_n hx hb dX12_deal_165 rfl (lv_at hl 3 rfl) ?_
        refine lv_aload_n hx hb dX12_deal_166 rfl (lv_at hl 3 rfl) ?_
        refine gf_X12_378 hC rfl hK hP 0 rfl rfl dX12_deal_167 ?_
        refine lv_iconst (v := 4) hx hb dX12_deal_170 (by decide) ?_
        refine pV hC hK hl hP hD (m_saying l G h0 jno 4 nw nk mhasKept nt mtaped nr mrowMany mroundOf mroundFrom mouts nm mfromHour mtoHour ns mfrom mto msort misFault mdeep mcoded mlines nl nc nF np ntr nb mbestCost nso nsi nit nsh nsf nss nrc 0 5 (nI jno) (fnw (1424 + 8 * jno + 0)) msize misParted fnw (by omega) (by omega)) si_X12_114 [0, 1] rfl rfl (by decide) rfl rfl rfl rfl rfl (Nat.le_of_ble_eq_true rfl) ⟨Nat.le_of_ble_eq_true rfl, Nat.le_of_ble_eq_true rfl⟩ ⟨by first | exact Nat.le_of_ble_eq_true rfl | exact Nat.zero_le _, by first | exact Nat.le_of_ble_eq_true rfl | exact Nat.zero_le _⟩ dX12_deal_171 (fun r6734 hr6734 => ?_)
        obtain rfl := hr6734
        refine lv_goto (tgt := 194) hx hb dX12_deal_174 (by decide) ?_
        refine pf_X12_369 hC rfl hK hP hD hS 0 (ws' := [(h0, .inr (12, [.ref nw, .ref nk, .int mhasKept, .ref nt, .int mtaped, .ref nr, .int mrowMany, .int mroundOf, .int mroundFrom, .int mouts, .ref nm, .int mfromHour, .int mtoHour, .ref ns, .int mfrom, .int mto, .int msort, .int misFault, .int mdeep, .int mcoded, .int mlines, .ref nl, .ref nc, .ref nF, .ref np, .ref ntr, .ref nb, .int mbestCost, .ref nso, .ref nsi, .ref nit, .ref nsh, .ref nsf, .ref nss, .ref nrc, .int 0, .int 5, .int (nI jno), .int (fnw (1424 + 8 * jno + 0)), .int (fnw (1424 + 8 * jno + 4)), .int misParted])), (nw, .inl (G.2.1, 1662, .inl fnw)), (nsh, .inl (G.2.1, 4, .inl fnsh)), (nsf, .inl (G.2.1, 4, .inl fnsf)), (nrc, .inl (G.2.1, 30, .inl fnrc))]) rfl (Nat.le_of_ble_eq_true rfl) rfl rfl rfl dX12_deal_194 (fun H locs hP hD hS => ?_)
        refine lv_aload_n hx hb dX12_deal_197 rfl (lv_at hl 3 rfl) ?_
        refine lv_iconst (v := 0) hx hb dX12_deal_198 (by decide) ?_
        refine pf_X12_380 hC rfl hK hP hD hS 0 (ws' := [(h0, .inr (12, [.ref nw, .ref nk, .int mhasKept, .ref nt, .int mtaped, .ref nr, .int mrowMany, .int mroundOf, .int mroundFrom, .int mouts, .ref nm, .int mfromHour, .int mtoHour, .ref ns, .int mfrom, .int mto, .int msort, .int misFault, .int mdeep, .int mcoded, .int mlines, .ref nl, .ref nc, .ref nF, .ref np, .ref ntr, .ref nb, .int mbestCost, .ref nso, .ref nsi, .ref nit, .ref nsh, .ref nsf, .ref nss, .ref nrc, .int 0, .int 5, .int (nI jno), .int (fnw (1424 + 8 * jno + 0)), .int (fnw (1424 + 8 * jno + 4)), .int 0])), (nw, .inl (G.2.1, 1662, .inl fnw)), (nsh, .inl (G.2.1, 4, .inl fnsh)), (nsf, .inl (G.2.1, 4, .inl fnsf)), (nrc, .inl (G.2.1, 30, .inl fnrc))]) rfl (Nat.le_of_ble_eq_true rfl) rfl (by decide +kernel) (by decide +kernel) dX12_deal_199 (fun H locs hP hD hS => ?_)
        obtain ⟨jdl, hjdl, rfl⟩ := Wi_nat (N := 3) (by decide) a6586
        rcases (show jdl = 0 ∨ jdl = 1 ∨ jdl = 2 ∨ jdl = 3 by omega) with rfl | rfl | rfl | rfl
        · refine lv_aload_n hx hb dX12_deal_202 rfl (lv_at hl 3 rfl) ?_
          refine lv_iload_n hx hb dX12_deal_203 rfl (lv_at hl 5 rfl) ?_
          refine lv_iload_n hx hb dX12_deal_204 rfl (lv_at hl 6 rfl) ?_
          refine iV (wr := [(nw, .inl (G.2.1, 1662, .inl fnw)), (nsh, .inl (G.2.1, 4, .inl fnsh)), (nsf, .inl (G.2.1, 4, .inl fnsf))]) hC hK hl hP hD hS hA (m_dealt0 l G h0 x3 nw nk mhasKept nt mtaped nr mrowMany mroundOf mroundFrom mouts nm mfromHour mtoHour ns mfrom mto msort misFault mdeep mcoded mlines nl nc nF np ntr nb mbestCost nso nsi nit nsh nsf nss nrc 0 5 (nI jno) (fnw (1424 + 8 * jno + 0)) (fnw (1424 + 8 * jno + 4)) 0 fnrc (by omega) (by omega)) si_X12_372 [0, 4] [1, 2, 3] rfl rfl (by decide) rfl (by decide) (by decide) rfl rfl rfl rfl rfl (Nat.le_of_ble_eq_true rfl) ⟨Nat.le_of_ble_eq_true rfl, Nat.le_of_ble_eq_true rfl⟩ ⟨Nat.le_of_ble_eq_true rfl, Nat.le_of_ble_eq_true rfl⟩ dX12_deal_205 (fun r6736 u6737 H locs hr6736 hP hD hS => ?_)
          obtain ⟨jr16738, ip16739, gtrc6740⟩ := u6737
          try dsimp only at hr6736
          have hP : va_P G.1 vwCl [(nw, .inl (G.2.1, 1662, .inl fnw)), (nsh, .inl (G.2.1, 4, .inl fnsh)), (nsf, .inl (G.2.1, 4, .inl fnsf)), (h0, .inr (12, [.ref nw, .ref nk, .int mhasKept, .ref nt, .int mtaped, .ref nr, .int mrowMany, .int mroundOf, .int mroundFrom, .int mouts, .ref nm, .int mfromHour, .int mtoHour, .ref ns, .int mfrom, .int mto, .int msort, .int misFault, .int mdeep, .int mcoded, .int mlines, .ref nl, .ref nc, .ref nF, .ref np, .ref ntr, .ref nb, .int mbestCost, .ref nso, .ref nsi, .ref nit, .ref nsh, .ref nsf, .ref nss, .ref nrc, .int (nI jr16738), .int 5, .int (nI jno), .int (fnw (1424 + 8 * jno + 0)), .int (fnw (1424 + 8 * jno + 4)), .int ip16739])), (nrc, .inl (G.2.1, 30, .inl gtrc6740))] H := hP
          have hD : va_D A [(nw, .inl (G.2.1, 1662, .inl fnw)), (nsh, .inl (G.2.1, 4, .inl fnsh)), (nsf, .inl (G.2.1, 4, .inl fnsf)), (h0, .inr (12, [.ref nw, .ref nk, .int mhasKept, .ref nt, .int mtaped, .ref nr, .int mrowMany, .int mroundOf, .int mroundFrom, .int mouts, .ref nm, .int mfromHour, .int mtoHour, .ref ns, .int mfrom, .int mto, .int msort, .int misFault, .int mdeep, .int mcoded, .int mlines, .ref nl, .ref nc, .ref nF, .ref np, .ref ntr, .ref nb, .int mbestCost, .ref nso, .ref nsi, .ref nit, .ref nsh, .ref nsf, .ref nss, .ref nrc, .int (nI jr16738), .int 5, .int (nI jno), .int (fnw (1424 + 8 * jno + 0)), .int (fnw (1424 + 8 * jno + 4)), .int ip16739])), (nrc, .inl (G.2.1, 30, .inl gtrc6740))] := hD
          obtain ⟨hr6736, w6741⟩ := hr6736
          refine lv_istore (lv' := [(7, .int r6736), (6, .int 1), (5, .int 0), (4, .int 5), (0, .ref h0), (1, .int (nI jt)), (2, .int 0), (3, .int x3)]) hx hb dX12_deal_208 hl (by decide) rfl (fun ls hl => ?_)
          refine lv_aload_n hx hb dX12_deal_210 rfl (lv_at hl 4 rfl) ?_
          refine gf_X12_380 hC rfl hK hP 3 rfl rfl dX12_deal_211 ?_
          refine lv_if_eq (tgt := 222) hx hb dX12_deal_214 (by decide) (fun c_214_6742 => ?_) (fun c_214_6742 => ?_)
          · refine lv_iload hx hb dX12_deal_222 (lv_at hl 0 rfl) ?_
            exact RI (v := r6736) hC hP hD hS [3, 0, 1, 2, 4] (jr16738, 5, nI jno, fnw (1424 + 8 * jno + 0), fnw (1424 + 8 * jno + 4), ip16739, gtrc6740) rfl rfl (by decide) (⟨trivial, by omega⟩) rfl dX12_deal_224
          · refine lv_bipush (v := (-15)) hx hb dX12_deal_217 (by decide) ?_
            refine lv_goto (tgt := 224) hx hb dX12_deal_219 (by decide) ?_
            exact RI (v := (-15)) hC hP hD hS [3, 0, 1, 2, 4] (jr16738, 5, nI jno, fnw (1424 + 8 * jno + 0), fnw (1424 + 8 * jno + 4), ip16739, gtrc6740) rfl rfl (by decide) (⟨trivial, by omega⟩) rfl dX12_deal_224
        · refine lv_aload_n hx hb dX12_deal_202 rfl (lv_at hl 3 rfl) ?_
          refine lv_iload_n hx hb dX12_deal_203 rfl (lv_at hl 5 rfl) ?_
          refine lv_iload_n hx hb dX12_deal_204 rfl (lv_at hl 6 rfl) ?_
          refine iV (wr := [(nw, .inl (G.2.1, 1662, .inl fnw)), (nsh, .inl (G.2.1, 4, .inl fnsh)), (nsf, .inl (G.2.1, 4, .inl fnsf))]) hC hK hl hP hD hS hA (m_dealt1 l G h0 x3 nw nk mhasKept nt mtaped nr mrowMany mroundOf mroundFrom mouts nm mfromHour mtoHour ns mfrom mto msort misFault mdeep mcoded mlines nl nc nF np ntr nb mbestCost nso nsi nit nsh nsf nss nrc 0 5 (nI jno) (fnw (1424 + 8 * jno + 0)) (fnw (1424 + 8 * jno + 4)) 0 fnrc (by omega) (by omega)) si_X12_372 [0, 4] [1, 2, 3] rfl rfl (by decide) rfl (by decide) (by decide) rfl rfl rfl rfl rfl (Nat.le_of_ble_eq_true rfl) ⟨Nat.le_of_ble_eq_true rfl, Nat.le_of_ble_eq_true rfl⟩ ⟨Nat.le_of_ble_eq_true rfl, Nat.le_of_ble_eq_true rfl⟩ dX12_deal_205 (fun r6743 u6744 H locs hr6743 hP hD hS => ?_)
          obtain ⟨jr16745, ip16746, gtrc6747⟩ := u6744
          try dsimp only at hr6743
          have hP : va_P G.1 vwCl [(nw, .inl (G.2.1, 1662, .inl fnw)), (nsh, .inl (G.2.1, 4, .inl fnsh)), (nsf, .inl (G.2.1, 4, .inl fnsf)), (h0, .inr (12, [.ref nw, .ref nk, .int mhasKept, .ref nt, .int mtaped, .ref nr, .int mrowMany, .int mroundOf, .int mroundFrom, .int mouts, .ref nm, .int mfromHour, .int mtoHour, .ref ns, .int mfrom, .int mto, .int msort, .int misFault, .int mdeep, .int mcoded, .int mlines, .ref nl, .ref nc, .ref nF, .ref np, .ref ntr, .ref nb, .int mbestCost, .ref nso, .ref nsi, .ref nit, .ref nsh, .ref nsf, .ref nss, .ref nrc, .int (nI jr16745), .int 5, .int (nI jno), .int (fnw (1424 + 8 * jno + 0)), .int (fnw (1424 + 8 * jno + 4)), .int ip16746])), (nrc, .inl (G.2.1, 30, .inl gtrc6747))] H := hP
          have hD : va_D A [(nw, .inl (G.2.1, 1662, .inl fnw)), (nsh, .inl (G.2.1, 4, .inl fnsh)), (nsf, .inl (G.2.1, 4, .inl fnsf)), (h0, .inr (12, [.ref nw, .ref nk, .int mhasKept, .ref nt, .int mtaped, .ref nr, .int mrowMany, .int mroundOf, .int mroundFrom, .int mouts, .ref nm, .int mfromHour, .int mtoHour, .ref ns, .int mfrom, .int mto, .int msort, .int misFault, .int mdeep, .int mcoded, .int mlines, .ref nl, .ref nc, .ref nF, .ref np, .ref ntr, .ref nb, .int mbestCost, .ref nso, .ref nsi, .ref nit, .ref nsh, .ref nsf, .ref nss, .ref nrc, .int (nI jr16745), .int 5, .int (nI jno), .int (fnw (1424 + 8 * jno + 0)), .int (fnw (1424 + 8 * jno + 4)), .int ip16746])), (nrc, .inl (G.2.1, 30, .inl gtrc6747))] := hD
          obtain ⟨hr6743, w6748⟩ := hr6743
          refine lv_istore (lv' := [(7, .int r6743), (6, .int 1), (5, .int 0), (4, .int 5), (0, .ref h0), (1, .int (nI jt)), (2, .int 1), (3, .int x3)]) hx hb dX12_deal_208 hl (by decide) rfl (fun ls hl => ?_)
          refine lv_aload_n hx hb dX12_deal_210 rfl (lv_at hl 4 rfl) ?_
          refine gf_X12_380 hC rfl hK hP 3 rfl rfl dX12_deal_211 ?_
          refine lv_if_eq (tgt := 222) hx hb dX12_deal_214 (by decide) (fun c_214_6749 => ?_) (fun c_214_6749 => ?_)
          · refine lv_iload hx hb dX12_deal_222 (lv_at hl 0 rfl) ?_
            exact RI (v := r6743) hC hP hD hS [3, 0, 1, 2, 4] (jr16745, 5, nI jno, fnw (1424 + 8 * jno + 0), fnw (1424 + 8 * jno + 4), ip16746, gtrc6747) rfl rfl (by decide) (⟨trivial, by omega⟩) rfl dX12_deal_224
          · refine lv_bipush (v := (-15)) hx hb dX12_deal_217 (by decide) ?_
            refine lv_goto (tgt := 224) hx hb dX12_deal_219 (by decide) ?_
            exact RI (v := (-15)) hC hP hD hS [3, 0, 1, 2, 4] (jr16745, 5, nI jno, fnw (1424 + 8 * jno + 0), fnw (1424 + 8 * jno + 4), ip16746, gtrc6747) rfl rfl (by decide) (⟨trivial, by omega⟩) rfl dX12_deal_224
        · refine lv_aload_n hx hb dX12_deal_202 rfl (lv_at hl 3 rfl) ?_
          refine lv_iload_n hx hb dX12_deal_203 rfl (lv_at hl 5 rfl) ?_
          refine lv_iload_n hx hb dX12_deal_204 rfl (lv_at hl 6 rfl) ?_
          refine iV (wr := [(nw, .inl (G.2.1, 1662, .inl fnw)), (nsh, .inl (G.2.1, 4, .inl fnsh)), (nsf, .inl (G.2.1, 4, .inl fnsf))]) hC hK hl hP hD hS hA (m_dealt2 l G h0 x3 nw nk mhasKept nt mtaped nr mrowMany mroundOf mroundFrom mouts nm mfromHour mtoHour ns mfrom mto msort misFault mdeep mcoded mlines nl nc nF np ntr nb mbestCost nso nsi nit nsh nsf nss nrc 0 5 (nI jno) (fnw (1424 + 8 * jno + 0)) (fnw (1424 + 8 * jno + 4)) 0 fnrc (by omega) (by omega)) si_X12_372 [0, 4] [1, 2, 3] rfl rfl (by decide) rfl (by decide) (by decide) rfl rfl rfl rfl rfl (Nat.le_of_ble_eq_true rfl) ⟨Nat.le_of_ble_eq_true rfl, Nat.le_of_ble_eq_true rfl⟩ ⟨Nat.le_of_ble_eq_true rfl, Nat.le_of_ble_eq_true rfl⟩ dX12_deal_205 (fun r6750 u6751 H locs hr6750 hP hD hS => ?_)
          obtain ⟨jr16752, ip16753, gtrc6754⟩ := u6751
          try dsimp only at hr6750
          have hP : va_P G.1 vwCl [(nw, .inl (G.2.1, 1662, .inl fnw)), (nsh, .inl (G.2.1, 4, .inl fnsh)), (nsf, .inl (G.2.1, 4, .inl fnsf)), (h0, .inr (12, [.ref nw, .ref nk, .int mhasKept, .ref nt, .int mtaped, .ref nr, .int mrowMany, .int mroundOf, .int mroundFrom, .int mouts, .ref nm, .int mfromHour, .int mtoHour, .ref ns, .int mfrom, .int mto, .int msort, .int misFault, .int mdeep, .int mcoded, .int mlines, .ref nl, .ref nc, .ref nF, .ref np, .ref ntr, .ref nb, .int mbestCost, .ref nso, .ref nsi, .ref nit, .ref nsh, .ref nsf, .ref nss, .ref nrc, .int (nI jr16752), .int 5, .int (nI jno), .int (fnw (1424 + 8 * jno + 0)), .int (fnw (1424 + 8 * jno + 4)), .int ip16753])), (nrc, .inl (G.2.1, 30, .inl gtrc6754))] H := hP
          have hD : va_D A [(nw, .inl (G.2.1, 1662, .inl fnw)), (nsh, .inl (G.2.1, 4, .inl fnsh)), (nsf, .inl (G.2.1, 4, .inl fnsf)), (h0, .inr (12, [.ref nw, .ref nk, .int mhasKept, .ref nt, .int mtaped, .ref nr, .int mrowMany, .int mroundOf, .int mroundFrom, .int mouts, .ref nm, .int mfromHour, .int mtoHour, .ref ns, .int mfrom, .int mto, .int msort, .int misFault, .int mdeep, .int mcoded, .int mlines, .ref nl, .ref nc, .ref nF, .ref np, .ref ntr, .ref nb, .int mbestCost, .ref nso, .ref nsi, .ref nit, .ref nsh, .ref nsf, .ref nss, .ref nrc, .int (nI jr16752), .int 5, .int (nI jno), .int (fnw (1424 + 8 * jno + 0)), .int (fnw (1424 + 8 * jno + 4)), .int ip16753])), (nrc, .inl (G.2.1, 30, .inl gtrc6754))] := hD
          obtain ⟨hr6750, w6755⟩ := hr6750
          refine lv_istore (lv' := [(7, .int r6750), (6, .int 1), (5, .int 0), (4, .int 5), (0, .ref h0), (1, .int (nI jt)), (2, .int 2), (3, .int x3)]) hx hb dX12_deal_208 hl (by decide) rfl (fun ls hl => ?_)
          refine lv_aload_n hx hb dX12_deal_210 rfl (lv_at hl 4 rfl) ?_
          refine gf_X12_380 hC rfl hK hP 3 rfl rfl dX12_deal_211 ?_
          refine lv_if_eq (tgt := 222) hx hb dX12_deal_214 (by decide) (fun c_214_6756 => ?_) (fun c_214_6756 => ?_)
          · refine lv_iload hx hb dX12_deal_222 (lv_at hl 0 rfl) ?_
            exact RI (v := r6750) hC hP hD hS [3, 0, 1, 2, 4] (jr16752, 5, nI jno, fnw (1424 + 8 * jno + 0), fnw (1424 + 8 * jno + 4), ip16753, gtrc6754) rfl rfl (by decide) (⟨trivial, by omega⟩) rfl dX12_deal_224
          · refine lv_bipush (v := (-15)) hx hb dX12_deal_217 (by decide) ?_
            refine lv_goto (tgt := 224) hx hb dX12_deal_219 (by decide) ?_
            exact RI (v := (-15)) hC hP hD hS [3, 0, 1, 2, 4] (jr16752, 5, nI jno, fnw (1424 + 8 * jno + 0), fnw (1424 + 8 * jno + 4), ip16753, gtrc6754) rfl rfl (by decide) (⟨trivial, by omega⟩) rfl dX12_deal_224
        · refine lv_aload_n hx hb dX12_deal_202 rfl (lv_at hl 3 rfl) ?_
          refine lv_iload_n hx hb dX12_deal_203 rfl (lv_at hl 5 rfl) ?_
          refine lv_iload_n hx hb dX12_deal_204 rfl (lv_at hl 6 rfl) ?_
          refine iV (wr := [(nw, .inl (G.2.1, 1662, .inl fnw)), (nsh, .inl (G.2.1, 4, .inl fnsh)), (nsf, .inl (G.2.1, 4, .inl fnsf))]) hC hK hl hP hD hS hA (m_dealt3 l G h0 x3 nw nk mhasKept nt mtaped nr mrowMany mroundOf mroundFrom mouts nm mfromHour mtoHour ns mfrom mto msort misFault mdeep mcoded mlines nl nc nF np ntr nb mbestCost nso nsi nit nsh nsf nss nrc 0 5 (nI jno) (fnw (1424 + 8 * jno + 0)) (fnw (1424 + 8 * jno + 4)) 0 fnrc (by omega) (by omega)) si_X12_372 [0, 4] [1, 2, 3] rfl rfl (by decide) rfl (by decide) (by decide) rfl rfl rfl rfl rfl (Nat.le_of_ble_eq_true rfl) ⟨Nat.le_of_ble_eq_true rfl, Nat.le_of_ble_eq_true rfl⟩ ⟨Nat.le_of_ble_eq_true rfl, Nat.le_of_ble_eq_true rfl⟩ dX12_deal_205 (fun r6757 u6758 H locs hr6757 hP hD hS => ?_)
          obtain ⟨jr16759, ip16760, gtrc6761⟩ := u6758
          try dsimp only at hr6757
          have hP : va_P G.1 vwCl [(nw, .inl (G.2.1, 1662, .inl fnw)), (nsh, .inl (G.2.1, 4, .inl fnsh)), (nsf, .inl (G.2.1, 4, .inl fnsf)), (h0, .inr (12, [.ref nw, .ref nk, .int mhasKept, .ref nt, .int mtaped, .ref nr, .int mrowMany, .int mroundOf, .int mroundFrom, .int mouts, .ref nm, .int mfromHour, .int mtoHour, .ref ns, .int mfrom, .int mto, .int msort, .int misFault, .int mdeep, .int mcoded, .int mlines, .ref nl, .ref nc, .ref nF, .ref np, .ref ntr, .ref nb, .int mbestCost, .ref nso, .ref nsi, .ref nit, .ref nsh, .ref nsf, .ref nss, .ref nrc, .int (nI jr16759), .int 5, .int (nI jno), .int (fnw (1424 + 8 * jno + 0)), .int (fnw (1424 + 8 * jno + 4)), .int ip16760])), (nrc, .inl (G.2.1, 30, .inl gtrc6761))] H := hP
          have hD : va_D A [(nw, .inl (G.2.1, 1662, .inl fnw)), (nsh, .inl (G.2.1, 4, .inl fnsh)), (nsf, .inl (G.2.1, 4, .inl fnsf)), (h0, .inr (12, [.ref nw, .ref nk, .int mhasKept, .ref nt, .int mtaped, .ref nr, .int mrowMany, .int mroundOf, .int mroundFrom, .int mouts, .ref nm, .int mfromHour, .int mtoHour, .ref ns, .int mfrom, .int mto, .int msort, .int misFault, .int mdeep, .int mcoded, .int mlines, .ref nl, .ref nc, .ref nF, .ref np, .ref ntr, .ref nb, .int mbestCost, .ref nso, .ref nsi, .ref nit, .ref nsh, .ref nsf, .ref nss, .ref nrc, .int (nI jr16759), .int 5, .int (nI jno), .int (fnw (1424 + 8 * jno + 0)), .int (fnw (1424 + 8 * jno + 4)), .int ip16760])), (nrc, .inl (G.2.1, 30, .inl gtrc6761))] := hD
          obtain ⟨hr6757, w6762⟩ := hr6757
          refine lv_istore (lv' := [(7, .int r6757), (6, .int 1), (5, .int 0), (4, .int 5), (0, .ref h0), (1, .int (nI jt)), (2, .int 3), (3, .int x3)]) hx hb dX12_deal_208 hl (by decide) rfl (fun ls hl => ?_)
          refine lv_aload_n hx hb dX12_deal_210 rfl (lv_at hl 4 rfl) ?_
          refine gf_X12_380 hC rfl hK hP 3 rfl rfl dX12_deal_211 ?_
          refine lv_if_eq (tgt := 222) hx hb dX12_deal_214 (by decide) (fun c_214_6763 => ?_) (fun c_214_6763 => ?_)
          · refine lv_iload hx hb dX12_deal_222 (lv_at hl 0 rfl) ?_
            exact RI (v := r6757) hC hP hD hS [3, 0, 1, 2, 4] (jr16759, 5, nI jno, fnw (1424 + 8 * jno + 0), fnw (1424 + 8 * jno + 4), ip16760, gtrc6761) rfl rfl (by decide) (⟨trivial, by omega⟩) rfl dX12_deal_224
          · refine lv_bipush (v := (-15)) hx hb dX12_deal_217 (by decide) ?_
            refine lv_goto (tgt := 224) hx hb dX12_deal_219 (by decide) ?_
            exact RI (v := (-15)) hC hP hD hS [3, 0, 1, 2, 4] (jr16759, 5, nI jno, fnw (1424 + 8 * jno + 0), fnw (1424 + 8 * jno + 4), ip16760, gtrc6761) rfl rfl (by decide) (⟨trivial, by omega⟩) rfl dX12_deal_224
      · refine lv_istore (lv' := [(4, .int 6), (0, .ref h0), (1, .int (nI jt)), (2, .int x2), (3, .int x3)]) hx hb dX12_deal_28 hl (by decide) rfl (fun ls hl => ?_)
        refine lv_iload hx hb dX12_deal_30 (lv_at hl 0 rfl) ?_
        refine lv_if_ge (tgt := 37) hx hb dX12_deal_32 (by decide) (fun _ => ?_) (fun c9 => absurd (by decide) c9)
        refine lv_aload_n hx hb dX12_deal_37 rfl (lv_at hl 1 rfl) ?_
        refine lv_iload hx hb dX12_deal_38 (lv_at hl 0 rfl) ?_
        refine pf_X12_354 hC rfl hK hP hD hS 0 (ws' := [(h0, .inr (12, [.ref nw, .ref nk, .int mhasKept, .ref nt, .int mtaped, .ref nr, .int mrowMany, .int mroundOf, .int mroundFrom, .int mouts, .ref nm, .int mfromHour, .int mtoHour, .ref ns, .int mfrom, .int mto, .int msort, .int misFault, .int mdeep, .int mcoded, .int mlines, .ref nl, .ref nc, .ref nF, .ref np, .ref ntr, .ref nb, .int mbestCost, .ref nso, .ref nsi, .ref nit, .ref nsh, .ref nsf, .ref nss, .ref nrc, .int 0, .int 6, .int mnumber, .int mwhose, .int msize, .int misParted])), (nw, .inl (G.2.1, 1662, .inl fnw)), (nsh, .inl (G.2.1, 4, .inl fnsh)), (nsf, .inl (G.2.1, 4, .inl fnsf)), (nrc, .inl (G.2.1, 30, .inl fnrc))]) rfl (Nat.le_of_ble_eq_true rfl) rfl rfl rfl dX12_deal_40 (fun H locs hP hD hS => ?_)
        refine lv_aload_n hx hb dX12_deal_43 rfl (lv_at hl 1 rfl) ?_
        refine lv_aload_n hx hb dX12_deal_44 rfl (lv_at hl 1 rfl) ?_
        refine gf_X12_75 hC rfl hK hP 0 rfl rfl dX12_deal_45 ?_
        refine lv_iload_n hx hb dX12_deal_48 rfl (lv_at hl 2 rfl) ?_
        refine ald hC hK hP 3 rfl (vp_in_nI (by omega) (by omega)) (k := jt) (nI_clamp (by omega)) (v := fnsf jt) rfl dX12_deal_49 ?_
        refine lv_topi (fun x6764 ex6764 => ?_)
        obtain ⟨hko9, jno, hjno, ejno⟩ := a6588
        refine eqi (x1 := nI jno) (ex6764.trans ejno) ?_
        refine pf_X12_378 hC rfl hK hP hD hS 0 (ws' := [(h0, .inr (12, [.ref nw, .ref nk, .int mhasKept, .ref nt, .int mtaped, .ref nr, .int mrowMany, .int mroundOf, .int mroundFrom, .int mouts, .ref nm, .int mfromHour, .int mtoHour, .ref ns, .int mfrom, .int mto, .int msort, .int misFault, .int mdeep, .int mcoded, .int mlines, .ref nl, .ref nc, .ref nF, .ref np, .ref ntr, .ref nb, .int mbestCost, .ref nso, .ref nsi, .ref nit, .ref nsh, .ref nsf, .ref nss, .ref nrc, .int 0, .int 6, .int (nI jno), .int mwhose, .int msize, .int misParted])), (nw, .inl (G.2.1, 1662, .inl fnw)), (nsh, .inl (G.2.1, 4, .inl fnsh)), (nsf, .inl (G.2.1, 4, .inl fnsf)), (nrc, .inl (G.2.1, 30, .inl fnrc))]) rfl (Nat.le_of_ble_eq_true rfl) rfl rfl rfl dX12_deal_50 (fun H locs hP hD hS => ?_)
        refine lv_aload_n hx hb dX12_deal_53 rfl (lv_at hl 1 rfl) ?_
        refine gf_X12_72 hC rfl hK hP 0 rfl rfl dX12_deal_54 ?_
        refine lv_iload_n hx hb dX12_deal_57 rfl (lv_at hl 2 rfl) ?_
        refine ald hC hK hP 2 rfl (vp_in_nI (by omega) (by omega)) (k := jt) (nI_clamp (by omega)) (v := fnsh jt) rfl dX12_deal_58 ?_
        refine lv_topi (fun x6765 ex6765 => ?_)
        refine lv_iconst (v := 1) hx hb dX12_deal_59 (by decide) ?_
        refine lv_icmp_ne (tgt := 67) hx hb dX12_deal_60 (by decide) (fun _ => ?_) (fun c9 => absurd c9 (fun h9 => absurd (hko9.symm.trans ((ex6765.symm).trans h9)) (by decide)))
        refine lv_iconst (v := 0) hx hb dX12_deal_67 (by decide) ?_
        refine lv_istore (lv' := [(5, .int 0), (4, .int 6), (0, .ref h0), (1, .int (nI jt)), (2, .int x2), (3, .int x3)]) hx hb dX12_deal_68 hl (by decide) rfl (fun ls hl => ?_)
        refine lv_aload_n hx hb dX12_deal_70 rfl (lv_at hl 2 rfl) ?_
        refine gf_X12_72 hC rfl hK hP 0 rfl rfl dX12_deal_71 ?_
        refine lv_iload_n hx hb dX12_deal_74 rfl (lv_at hl 3 rfl) ?_
        refine ald hC hK hP 2 rfl (vp_in_nI (by omega) (by omega)) (k := jt) (nI_clamp (by omega)) (v := fnsh jt) rfl dX12_deal_75 ?_
        refine lv_topi (fun x6766 ex6766 => ?_)
        refine lv_iconst (v := 2) hx hb dX12_deal_76 (by decide) ?_
        refine lv_icmp_ne (tgt := 84) hx hb dX12_deal_77 (by decide) (fun _ => ?_) (fun c9 => absurd c9 (fun h9 => absurd (hko9.symm.trans ((ex6766.symm).trans h9)) (by decide)))
        refine lv_iconst (v := 0) hx hb dX12_deal_84 (by decide) ?_
        refine lv_istore (lv' := [(6, .int 0), (5, .int 0), (4, .int 6), (0, .ref h0), (1, .int (nI jt)), (2, .int x2), (3, .int x3)]) hx hb dX12_deal_85 hl (by decide) rfl (fun ls hl => ?_)
        refine lv_aload_n hx hb dX12_deal_87 rfl (lv_at hl 3 rfl) ?_
        refine lv_iload hx hb dX12_deal_88 (lv_at hl 1 rfl) ?_
        refine lv_if_eq (tgt := 105) hx hb dX12_deal_90 (by decide) (fun _ => ?_) (fun c9 => absurd (by decide) c9)
        refine lv_iload hx hb dX12_deal_105 (lv_at hl 0 rfl) ?_
        refine lv_if_eq (tgt := 122) hx hb dX12_deal_107 (by decide) (fun _ => ?_) (fun c9 => absurd (by decide) c9)
        refine lv_aload_n hx hb dX12_deal_122 rfl (lv_at hl 3 rfl) ?_
        refine gf_X12_9 hC rfl hK hP 0 rfl rfl dX12_deal_123 ?_
        refine lv_sipush (v := 1552) hx hb dX12_deal_126 (by decide) ?_
        refine lv_iconst (v := 4) hx hb dX12_deal_129 (by decide) ?_
        refine lv_aload_n hx hb dX12_deal_130 rfl (lv_at hl 3 rfl) ?_
        refine gf_X12_378 hC rfl hK hP 0 rfl rfl dX12_deal_131 ?_
        refine lv_imul hx hb dX12_deal_134 ?_
        refine eqi (x1 := nI (4 * jno)) (nI_mul 4 jno) ?_
        refine lv_iadd hx hb dX12_deal_135 ?_
        refine eqi (x1 := nI (1552 + 4 * jno)) (nI_add 1552 (4 * jno)) ?_
        refine lv_iconst (v := 0) hx hb dX12_deal_136 (by decide) ?_
        refine lv_iadd hx hb dX12_deal_137 ?_
        refine eqi (x1 := nI (1552 + 4 * jno + 0)) (nI_add (1552 + 4 * jno) 0) ?_
        refine ald hC hK hP 1 rfl (vp_in_nI (by omega) (by omega)) (k := (1552 + 4 * jno + 0)) (nI_clamp (by omega)) (v := fnw (1552 + 4 * jno + 0)) rfl dX12_deal_138 ?_
        refine lv_topi (fun x6767 ex6767 => ?_)
        refine pf_X12_375 hC rfl hK hP hD hS 0 (ws' := [(h0, .inr (12, [.ref nw, .ref nk, .int mhasKept, .ref nt, .int mtaped, .ref nr, .int mrowMany, .int mroundOf, .int mroundFrom, .int mouts, .ref nm, .int mfromHour, .int mtoHour, .ref ns, .int mfrom, .int mto, .int msort, .int misFault, .int mdeep, .int mcoded, .int mlines, .ref nl, .ref nc, .ref nF, .ref np, .ref ntr, .ref nb, .int mbestCost, .ref nso, .ref nsi, .ref nit, .ref nsh, .ref nsf, .ref nss, .ref nrc, .int 0, .int 6, .int (nI jno), .int x6767, .int msize, .int misParted])), (nw, .inl (G.2.1, 1662, .inl fnw)), (nsh, .inl (G.2.1, 4, .inl fnsh)), (nsf, .inl (G.2.1, 4, .inl fnsf)), (nrc, .inl (G.2.1, 30, .inl fnrc))]) rfl (Nat.le_of_ble_eq_true rfl) rfl rfl rfl dX12_deal_139 (fun H locs hP hD hS => ?_)
        refine lv_aload_n hx hb dX12_deal_142 rfl (lv_at hl 3 rfl) ?_
        refine lv_iload hx hb dX12_deal_143 (lv_at hl 1 rfl) ?_
        refine lv_if_eq (tgt := 160) hx hb dX12_deal_145 (by decide) (fun _ => ?_) (fun c9 => absurd (by decide) c9)
        refine lv_iload hx hb dX12_deal_160 (lv_at hl 0 rfl) ?_
        refine lv_if_eq (tgt := 177) hx hb dX12_deal_162 (by decide) (fun _ => ?_) (fun c9 => absurd (by decide) c9)
        refine lv_aload_n hx hb dX12_deal_177 rfl (lv_at hl 3 rfl) ?_
        refine gf_X12_9 hC rfl hK hP 0 rfl rfl dX12_deal_178 ?_
        refine lv_sipush (v := 1552) hx hb dX12_deal_181 (by decide) ?_
        refine lv_iconst (v := 4) hx hb dX12_deal_184 (by decide) ?_
        refine lv_aload_n hx hb dX12_deal_185 rfl (lv_at hl 3 rfl) ?_
        refine gf_X12_378 hC rfl hK hP 0 rfl rfl dX12_deal_186 ?_
        refine lv_imul hx hb dX12_deal_189 ?_
        refine eqi (x1 := nI (4 * jno)) (nI_mul 4 jno) ?_
        refine lv_iadd hx hb dX12_deal_190 ?_
        refine eqi (x1 := nI (1552 + 4 * jno)) (nI_add 1552 (4 * jno)) ?_
        refine lv_iconst (v := 2) hx hb dX12_deal_191 (by decide) ?_
        refine lv_iadd hx hb dX12_deal_192 ?_
        refine eqi (x1 := nI (1552 + 4 * jno + 2)) (nI_add (1552 + 4 * jno) 2) ?_
        refine ald hC hK hP 1 rfl (vp_in_nI (by omega) (by omega)) (k := (1552 + 4 * jno + 2)) (nI_clamp (by omega)) (v := fnw (1552 + 4 * jno + 2)) rfl dX12_deal_193 ?_
        refine lv_topi (fun x6768 ex6768 => ?_)
        refine pf_X12_369 hC rfl hK hP hD hS 0 (ws' := [(h0, .inr (12, [.ref nw, .ref nk, .int mhasKept, .ref nt, .int mtaped, .ref nr, .int mrowMany, .int mroundOf, .int mroundFrom, .int mouts, .ref nm, .int mfromHour, .int mtoHour, .ref ns, .int mfrom, .int mto, .int msort, .int misFault, .int mdeep, .int mcoded, .int mlines, .ref nl, .ref nc, .ref nF, .ref np, .ref ntr, .ref nb, .int mbestCost, .ref nso, .ref nsi, .ref nit, .ref nsh, .ref nsf, .ref nss, .ref nrc, .int 0, .int 6, .int (nI jno), .int x6767, .int x6768, .int misParted])), (nw, .inl (G.2.1, 1662, .inl fnw)), (nsh, .inl (G.2.1, 4, .inl fnsh)), (nsf, .inl (G.2.1, 4, .inl fnsf)), (nrc, .inl (G.2.1, 30, .inl fnrc))]) rfl (Nat.le_of_ble_eq_true rfl) rfl rfl rfl dX12_deal_194 (fun H locs hP hD hS => ?_)
        refine lv_aload_n hx hb dX12_deal_197 rfl (lv_at hl 3 rfl) ?_
        refine lv_iconst (v := 0) hx hb dX12_deal_198 (by decide) ?_
        refine pf_X12_380 hC rfl hK hP hD hS 0 (ws' := [(h0, .inr (12, [.ref nw, .ref nk, .int mhasKept, .ref nt, .int mtaped, .ref nr, .int mrowMany, .int mroundOf, .int mroundFrom, .int mouts, .ref nm, .int mfromHour, .int mtoHour, .ref ns, .int mfrom, .int mto, .int msort, .int misFault, .int mdeep, .int mcoded, .int mlines, .ref nl, .ref nc, .ref nF, .ref np, .ref ntr, .ref nb, .int mbestCost, .ref nso, .ref nsi, .ref nit, .ref nsh, .ref nsf, .ref nss, .ref nrc, .int 0, .int 6, .int (nI jno), .int x6767, .int x6768, .int 0])), (nw, .inl (G.2.1, 1662, .inl fnw)), (nsh, .inl (G.2.1, 4, .inl fnsh)), (nsf, .inl (G.2.1, 4, .inl fnsf)), (nrc, .inl (G.2.1, 30, .inl fnrc))]) rfl (Nat.le_of_ble_eq_true rfl) rfl (by decide +kernel) (by decide +kernel) dX12_deal_199 (fun H locs hP hD hS => ?_)
        obtain ⟨jdl, hjdl, rfl⟩ := Wi_nat (N := 3) (by decide) a6586
        rcases (show jdl = 0 ∨ jdl = 1 ∨ jdl = 2 ∨ jdl = 3 by omega) with rfl | rfl | rfl | rfl
        · refine lv_aload_n hx hb dX12_deal_202 rfl (lv_at hl 3 rfl) ?_
          refine lv_iload_n hx hb dX12_deal_203 rfl (lv_at hl 5 rfl) ?_
          refine lv_iload_n hx hb dX12_deal_204 rfl (lv_at hl 6 rfl) ?_
          refine iV (wr := [(nw, .inl (G.2.1, 1662, .inl fnw)), (nsh, .inl (G.2.1, 4, .inl fnsh)), (nsf, .inl (G.2.1, 4, .inl fnsf))]) hC hK hl hP hD hS hA (m_dealt0 l G h0 x3 nw nk mhasKept nt mtaped nr mrowMany mroundOf mroundFrom mouts nm mfromHour mtoHour ns mfrom mto msort misFault mdeep mcoded mlines nl nc nF np ntr nb mbestCost nso nsi nit nsh nsf nss nrc 0 6 (nI jno) x6767 x6768 0 fnrc (by omega) (by omega)) si_X12_372 [0, 4] [1, 2, 3] rfl rfl (by decide) rfl (by decide) (by decide) rfl rfl rfl rfl rfl (Nat.le_of_ble_eq_true rfl) ⟨Nat.le_of_ble_eq_true rfl, Nat.le_of_ble_eq_true rfl⟩ ⟨Nat.le_of_ble_eq_true rfl, Nat.le_of_ble_eq_true rfl⟩ dX12_deal_205 (fun r6769 u6770 H locs hr6769 hP hD hS => ?_)
          obtain ⟨jr16771, ip16772, gtrc6773⟩ := u6770
          try dsimp only at hr6769
          have hP : va_P G.1 vwCl [(nw, .inl (G.2.1, 1662, .inl fnw)), (nsh, .inl (G.2.1, 4, .inl fnsh)), (nsf, .inl (G.2.1, 4, .inl fnsf)), (h0, .inr (12, [.ref nw, .ref nk, .int mhasKept, .ref nt, .int mtaped, .ref nr, .int mrowMany, .int mroundOf, .int mroundFrom, .int mouts, .ref nm, .int mfromHour, .int mtoHour, .ref ns, .int mfrom, .int mto, .int msort, .int misFault, .int mdeep, .int mcoded, .int mlines, .ref nl, .ref nc, .ref nF, .ref np, .ref ntr, .ref nb, .int mbestCost, .ref nso, .ref nsi, .ref nit, .ref nsh, .ref nsf, .ref nss, .ref nrc, .int (nI jr16771), .int 6, .int (nI jno), .int x6767, .int x6768, .int ip16772])), (nrc, .inl (G.2.1, 30, .inl gtrc6773))] H := hP
          have hD : va_D A [(nw, .inl (G.2.1, 1662, .inl fnw)), (nsh, .inl (G.2.1, 4, .inl fnsh)), (nsf, .inl (G.2.1, 4, .inl fnsf)), (h0, .inr (12, [.ref nw, .ref nk, .int mhasKept, .ref nt, .int mtaped, .ref nr, .int mrowMany, .int mroundOf, .int mroundFrom, .int mouts, .ref nm, .int mfromHour, .int mtoHour, .ref ns, .int mfrom, .int mto, .int msort, .int misFault, .int mdeep, .int mcoded, .int mlines, .ref nl, .ref nc, .ref nF, .ref np, .ref ntr, .ref nb, .int mbestCost, .ref nso, .ref nsi, .ref nit, .ref nsh, .ref nsf, .ref nss, .ref nrc, .int (nI jr16771), .int 6, .int (nI jno), .int x6767, .int x6768, .int ip16772])), (nrc, .inl (G.2.1, 30, .inl gtrc6773))] := hD
          obtain ⟨hr6769, w6774⟩ := hr6769
          refine lv_istore (lv' := [(7, .int r6769), (6, .int 0), (5, .int 0), (4, .int 6), (0, .ref h0), (1, .int (nI jt)), (2, .int 0), (3, .int x3)]) hx hb dX12_deal_208 hl (by decide) rfl (fun ls hl => ?_)
          refine lv_aload_n hx hb dX12_deal_210 rfl (lv_at hl 4 rfl) ?_
          refine gf_X12_380 hC rfl hK hP 3 rfl rfl dX12_deal_211 ?_
          refine lv_if_eq (tgt := 222) hx hb dX12_deal_214 (by decide) (fun c_214_6775 => ?_) (fun c_214_6775 => ?_)
          · refine lv_iload hx hb dX12_deal_222 (lv_at hl 0 rfl) ?_
            exact RI (v := r6769) hC hP hD hS [3, 0, 1, 2, 4] (jr16771, 6, nI jno, x6767, x6768, ip16772, gtrc6773) rfl rfl (by decide) (⟨trivial, by omega⟩) rfl dX12_deal_224
          · refine lv_bipush (v := (-15)) hx hb dX12_deal_217 (by decide) ?_
            refine lv_goto (tgt := 224) hx hb dX12_deal_219 (by decide) ?_
            exact RI (v := (-15)) hC hP hD hS [3, 0, 1, 2, 4] (jr16771, 6, nI jno, x6767, x6768, ip16772, gtrc6773) rfl rfl (by decide) (⟨trivial, by omega⟩) rfl dX12_deal_224
        · refine lv_aload_n hx hb dX12_deal_202 rfl (lv_at hl 3 rfl) ?_
          refine lv_iload_n hx hb dX12_deal_203 rfl (lv_at hl 5 rfl) ?_
          refine lv_iload_n hx hb dX12_deal_204 rfl (lv_at hl 6 rfl) ?_
          refine iV (wr := [(nw, .inl (G.2.1, 1662, .inl fnw)), (nsh, .inl (G.2.1, 4, .inl fnsh)), (nsf, .inl (G.2.1, 4, .inl fnsf))]) hC hK hl hP hD hS hA (m_dealt1 l G h0 x3 nw nk mhasKept nt mtaped nr mrowMany mroundOf mroundFrom mouts nm mfromHour mtoHour ns mfrom mto msort misFault mdeep mcoded mlines nl nc nF np ntr nb mbestCost nso nsi nit nsh nsf nss nrc 0 6 (nI jno) x6767 x6768 0 fnrc (by omega) (by omega)) si_X12_372 [0, 4] [1, 2, 3] rfl rfl (by decide) rfl (by decide) (by decide) rfl rfl rfl rfl rfl (Nat.le_of_ble_eq_true rfl) ⟨Nat.le_of_ble_eq_true rfl, Nat.le_of_ble_eq_true rfl⟩ ⟨Nat.le_of_ble_eq_true rfl, Nat.le_of_ble_eq_true rfl⟩ dX12_deal_205 (fun r6776 u6777 H locs hr6776 hP hD hS => ?_)
          obtain ⟨jr16778, ip16779, gtrc6780⟩ := u6777
          try dsimp only at hr6776
          have hP : va_P G.1 vwCl [(nw, .inl (G.2.1, 1662, .inl fnw)), (nsh, .inl (G.2.1, 4, .inl fnsh)), (nsf, .inl (G.2.1, 4, .inl fnsf)), (h0, .inr (12, [.ref nw, .ref nk, .int mhasKept, .ref nt, .int mtaped, .ref nr, .int mrowMany, .int mroundOf, .int mroundFrom, .int mouts, .ref nm, .int mfromHour, .int mtoHour, .ref ns, .int mfrom, .int mto, .int msort, .int misFault, .int mdeep, .int mcoded, .int mlines, .ref nl, .ref nc, .ref nF, .ref np, .ref ntr, .ref nb, .int mbestCost, .ref nso, .ref nsi, .ref nit, .ref nsh, .ref nsf, .ref nss, .ref nrc, .int (nI jr16778), .int 6, .int (nI jno), .int x6767, .int x6768, .int ip16779])), (nrc, .inl (G.2.1, 30, .inl gtrc6780))] H := hP
          have hD : va_D A [(nw, .inl (G.2.1, 1662, .inl fnw)), (nsh, .inl (G.2.1, 4, .inl fnsh)), (nsf, .inl (G.2.1, 4, .inl fnsf)), (h0, .inr (12, [.ref nw, .ref nk, .int mhasKept, .ref nt, .int mtaped, .ref nr, .int mrowMany, .int mroundOf, .int mroundFrom, .int mouts, .ref nm, .int mfromHour, .int mtoHour, .ref ns, .int mfrom, .int mto, .int msort, .int misFault, .int mdeep, .int mcoded, .int mlines, .ref nl, .ref nc, .ref nF, .ref np, .ref ntr, .ref nb, .int mbestCost, .ref nso, .ref nsi, .ref nit, .ref nsh, .ref nsf, .ref nss, .ref nrc, .int (nI jr16778), .int 6, .int (nI jno), .int x6767, .int x6768, .int ip16779])), (nrc, .inl (G.2.1, 30, .inl gtrc6780))] := hD
          obtain ⟨hr6776, w6781⟩ := hr6776
          refine lv_istore (lv' := [(7, .int r6776), (6, .int 0), (5, .int 0), (4, .int 6), (0, .ref h0), (1, .int (nI jt)), (2, .int 1), (3, .int x3)]) hx hb dX12_deal_208 hl (by decide) rfl (fun ls hl => ?_)
          refine lv_aload_n hx hb dX12_deal_210 rfl (lv_at hl 4 rfl) ?_
          refine gf_X12_380 hC rfl hK hP 3 rfl rfl dX12_deal_211 ?_
          refine lv_if_eq (tgt := 222) hx hb dX12_deal_214 (by decide) (fun c_214_6782 => ?_) (fun c_214_6782 => ?_)
          · refine lv_iload hx hb dX12_deal_222 (lv_at hl 0 rfl) ?_
            exact RI (v := r6776) hC hP hD hS [3, 0, 1, 2, 4] (jr16778, 6, nI jno, x6767, x6768, ip16779, gtrc6780) rfl rfl (by decide) (⟨trivial, by omega⟩) rfl dX12_deal_224
          · refine lv_bipush (v := (-15)) hx hb dX12_deal_217 (by decide) ?_
            refine lv_goto (tgt := 224) hx hb dX12_deal_219 (by decide) ?_
            exact RI (v := (-15)) hC hP hD hS [3, 0, 1, 2, 4] (jr16778, 6, nI jno, x6767, x6768, ip16779, gtrc6780) rfl rfl (by decide) (⟨trivial, by omega⟩) rfl dX12_deal_224
        · refine lv_aload_n hx hb dX12_deal_202 rfl (lv_at hl 3 rfl) ?_
          refine lv_iload_n hx hb dX12_deal_203 rfl (lv_at hl 5 rfl) ?_
          refine lv_iload_n hx hb dX12_deal_204 rfl (lv_at hl 6 rfl) ?_
          refine iV (wr := [(nw, .inl (G.2.1, 1662, .inl fnw)), (nsh, .inl (G.2.1, 4, .inl fnsh)), (nsf, .inl (G.2.1, 4, .inl fnsf))]) hC hK hl hP hD hS hA (m_dealt2 l G h0 x3 nw nk mhasKept nt mtaped nr mrowMany mroundOf mroundFrom mouts nm mfromHour mtoHour ns mfrom mto msort misFault mdeep mcoded mlines nl nc nF np ntr nb mbestCost nso nsi nit nsh nsf nss nrc 0 6 (nI jno) x6767 x6768 0 fnrc (by omega) (by omega)) si_X12_372 [0, 4] [1, 2, 3] rfl rfl (by decide) rfl (by decide) (by decide) rfl rfl rfl rfl rfl (Nat.le_of_ble_eq_true rfl) ⟨Nat.le_of_ble_eq_true rfl, Nat.le_of_ble_eq_true rfl⟩ ⟨Nat.le_of_ble_eq_true rfl, Nat.le_of_ble_eq_true rfl⟩ dX12_deal_205 (fun r6783 u6784 H locs hr6783 hP hD hS => ?_)
          obtain ⟨jr16785, ip16786, gtrc6787⟩ := u6784
          try dsimp only at hr6783
          have hP : va_P G.1 vwCl [(nw, .inl (G.2.1, 1662, .inl fnw)), (nsh, .inl (G.2.1, 4, .inl fnsh)), (nsf, .inl (G.2.1, 4, .inl fnsf)), (h0, .inr (12, [.ref nw, .ref nk, .int mhasKept, .ref nt, .int mtaped, .ref nr, .int mrowMany, .int mroundOf, .int mroundFrom, .int mouts, .ref nm, .int mfromHour, .int mtoHour, .ref ns, .int mfrom, .int mto, .int msort, .int misFault, .int mdeep, .int mcoded, .int mlines, .ref nl, .ref nc, .ref nF, .ref np, .ref ntr, .ref nb, .int mbestCost, .ref nso, .ref nsi, .ref nit, .ref nsh, .ref nsf, .ref nss, .ref nrc, .int (nI jr16785), .int 6, .int (nI jno), .int x6767, .int x6768, .int ip16786])), (nrc, .inl (G.2.1, 30, .inl gtrc6787))] H := hP
          have hD : va_D A [(nw, .inl (G.2.1, 1662, .inl fnw)), (nsh, .inl (G.2.1, 4, .inl fnsh)), (nsf, .inl (G.2.1, 4, .inl fnsf)), (h0, .inr (12, [.ref nw, .ref nk, .int mhasKept, .ref nt, .int mtaped, .ref nr, .int mrowMany, .int mroundOf, .int mroundFrom, .int mouts, .ref nm, .int mfromHour, .int mtoHour, .ref ns, .int mfrom, .int mto, .int msort, .int misFault, .int mdeep, .int mcoded, .int mlines, .ref nl, .ref nc, .ref nF, .ref np, .ref ntr, .ref nb, .int mbestCost, .ref nso, .ref nsi, .ref nit, .ref nsh, .ref nsf, .ref nss, .ref nrc, .int (nI jr16785), .int 6, .int (nI jno), .int x6767, .int x6768, .int ip16786])), (nrc, .inl (G.2.1, 30, .inl gtrc6787))] := hD
          obtain ⟨hr6783, w6788⟩ := hr6783
          refine lv_istore (lv' := [(7, .int r6783), (6, .int 0), (5, .int 0), (4, .int 6), (0, .ref h0), (1, .int (nI jt)), (2, .int 2), (3, .int x3)]) hx hb dX12_deal_208 hl (by decide) rfl (fun ls hl => ?_)
          refine lv_aload_n hx hb dX12_deal_210 rfl (lv_at hl 4 rfl) ?_
          refine gf_X12_380 hC rfl hK hP 3 rfl rfl dX12_deal_211 ?_
          refine lv_if_eq (tgt := 222) hx hb dX12_deal_214 (by decide) (fun c_214_6789 => ?_) (fun c_214_6789 => ?_)
          · refine lv_iload hx hb dX12_deal_222 (lv_at hl 0 rfl) ?_
            exact RI (v := r6783) hC hP hD hS [3, 0, 1, 2, 4] (jr16785, 6, nI jno, x6767, x6768, ip16786, gtrc6787) rfl rfl (by decide) (⟨trivial, by omega⟩) rfl dX12_deal_224
          · refine lv_bipush (v := (-15)) hx hb dX12_deal_217 (by decide) ?_
            refine lv_goto (tgt := 224) hx hb dX12_deal_219 (by decide) ?_
            exact RI (v := (-15)) hC hP hD hS [3, 0, 1, 2, 4] (jr16785, 6, nI jno, x6767, x6768, ip16786, gtrc6787) rfl rfl (by decide) (⟨trivial, by omega⟩) rfl dX12_deal_224
        · refine lv_aload_n hx hb dX12_deal_202 rfl (lv_at hl 3 rfl) ?_
          refine lv_iload_n hx hb dX12_deal_203 rfl (lv_at hl 5 rfl) ?_
          refine lv_iload_n hx hb dX12_deal_204 rfl (lv_at hl 6 rfl) ?_
          refine iV (wr := [(nw, .inl (G.2.1, 1662, .inl fnw)), (nsh, .inl (G.2.1, 4, .inl fnsh)), (nsf, .inl (G.2.1, 4, .inl fnsf))]) hC hK hl hP hD hS hA (m_dealt3 l G h0 x3 nw nk mhasKept nt mtaped nr mrowMany mroundOf mroundFrom mouts nm mfromHour mtoHour ns mfrom mto msort misFault mdeep mcoded mlines nl nc nF np ntr nb mbestCost nso nsi nit nsh nsf nss nrc 0 6 (nI jno) x6767 x6768 0 fnrc (by omega) (by omega)) si_X12_372 [0, 4] [1, 2, 3] rfl rfl (by decide) rfl (by decide) (by decide) rfl rfl rfl rfl rfl (Nat.le_of_ble_eq_true rfl) ⟨Nat.le_of_ble_eq_true rfl, Nat.le_of_ble_eq_true rfl⟩ ⟨Nat.le_of_ble_eq_true rfl, Nat.le_of_ble_eq_true rfl⟩ dX12_deal_205 (fun r6790 u6791 H locs hr6790 hP hD hS => ?_)
          obtain ⟨jr16792, ip16793, gtrc6794⟩ := u6791
          try dsimp only at hr6790
          have hP : va_P G.1 vwCl [(nw, .inl (G.2.1, 1662, .inl fnw)), (nsh, .inl (G.2.1, 4, .inl fnsh)), (nsf, .inl (G.2.1, 4, .inl fnsf)), (h0, .inr (12, [.ref nw, .ref nk, .int mhasKept, .ref nt, .int mtaped, .ref nr, .int mrowMany, .int mroundOf, .int mroundFrom, .int mouts, .ref nm, .int mfromHour, .int mtoHour, .ref ns, .int mfrom, .int mto, .int msort, .int misFault, .int mdeep, .int mcoded, .int mlines, .ref nl, .ref nc, .ref nF, .ref np, .ref ntr, .ref nb, .int mbestCost, .ref nso, .ref nsi, .ref nit, .ref nsh, .ref nsf, .ref nss, .ref nrc, .int (nI jr16792), .int 6, .int (nI jno), .int x6767, .int x6768, .int ip16793])), (nrc, .inl (G.2.1, 30, .inl gtrc6794))] H := hP
          have hD : va_D A [(nw, .inl (G.2.1, 1662, .inl fnw)), (nsh, .inl (G.2.1, 4, .inl fnsh)), (nsf, .inl (G.2.1, 4, .inl fnsf)), (h0, .inr (12, [.ref nw, .ref nk, .int mhasKept, .ref nt, .int mtaped, .ref nr, .int mrowMany, .int mroundOf, .int mroundFrom, .int mouts, .ref nm, .int mfromHour, .int mtoHour, .ref ns, .int mfrom, .int mto, .int msort, .int misFault, .int mdeep, .int mcoded, .int mlines, .ref nl, .ref nc, .ref nF, .ref np, .ref ntr, .ref nb, .int mbestCost, .ref nso, .ref nsi, .ref nit, .ref nsh, .ref nsf, .ref nss, .ref nrc, .int (nI jr16792), .int 6, .int (nI jno), .int x6767, .int x6768, .int ip16793])), (nrc, .inl (G.2.1, 30, .inl gtrc6794))] := hD
          obtain ⟨hr6790, w6795⟩ := hr6790
          refine lv_istore (lv' := [(7, .int r6790), (6, .int 0), (5, .int 0), (4, .int 6), (0, .ref h0), (1, .int (nI jt)), (2, .int 3), (3, .int x3)]) hx hb dX12_deal_208 hl (by decide) rfl (fun ls hl => ?_)
          refine lv_aload_n hx hb dX12_deal_210 rfl (lv_at hl 4 rfl) ?_
          refine gf_X12_380 hC rfl hK hP 3 rfl rfl dX12_deal_211 ?_
          refine lv_if_eq (tgt := 222) hx hb dX12_deal_214 (by decide) (fun c_214_6796 => ?_) (fun c_214_6796 => ?_)
          · refine lv_iload hx hb dX12_deal_222 (lv_at hl 0 rfl) ?_
            exact RI (v := r6790) hC hP hD hS [3, 0, 1, 2, 4] (jr16792, 6, nI jno, x6767, x6768, ip16793, gtrc6794) rfl rfl (by decide) (⟨trivial, by omega⟩) rfl dX12_deal_224
          · refine lv_bipush (v := (-15)) hx hb dX12_deal_217 (by decide) ?_
            refine lv_goto (tgt := 224) hx hb dX12_deal_219 (by decide) ?_
            exact RI (v := (-15)) hC hP hD hS [3, 0, 1, 2, 4] (jr16792, 6, nI jno, x6767, x6768, ip16793, gtrc6794) rfl rfl (by decide) (⟨trivial, by omega⟩) rfl dX12_deal_224
    · refine lv_if_ne (tgt := 23) hx hb dX12_deal_16 (by decide) (fun c9 => absurd (by decide) c9) (fun _ => ?_)
      refine lv_iconst (v := (-1)) hx hb dX12_deal_19 (by decide) ?_
      refine lv_goto (tgt := 28) hx hb dX12_deal_20 (by decide) ?_
      refine lv_istore (lv' := [(4, .int (-1)), (0, .ref h0), (1, .int x1), (2, .int x2), (3, .int x3)]) hx hb dX12_deal_28 hl (by decide) rfl (fun ls hl => ?_)
      refine lv_iload hx hb dX12_deal_30 (lv_at hl 0 rfl) ?_
      refine lv_if_ge (tgt := 37) hx hb dX12_deal_32 (by decide) (fun c9 => absurd c9 (by decide)) (fun _ => ?_)
      refine lv_iconst (v := 0) hx hb dX12_deal_35 (by decide) ?_
      exact RI (v := 0) hC hP hD hS [0, 1, 2, 3, 4] (0, mdealer, mnumber, mwhose, msize, misParted, fnrc) rfl rfl (by decide) (⟨trivial, by omega⟩) rfl dX12_deal_36
  · refine lv_if_eq (tgt := 19) hx hb dX12_deal_9 (by decide) (fun _ => ?_) (fun c9 => absurd (by decide) c9)
    refine lv_iconst (v := (-1)) hx hb dX12_deal_19 (by decide) ?_
    refine lv_goto (tgt := 28) hx hb dX12_deal_20 (by decide) ?_
    refine lv_istore (lv' := [(4, .int (-1)), (0, .ref h0), (1, .int x1), (2, .int x2), (3, .int x3)]) hx hb dX12_deal_28 hl (by decide) rfl (fun ls hl => ?_)
    refine lv_iload hx hb dX12_deal_30 (lv_at hl 0 rfl) ?_
    refine lv_if_ge (tgt := 37) hx hb dX12_deal_32 (by decide) (fun c9 => absurd c9 (by decide)) (fun _ => ?_)
    refine lv_iconst (v := 0) hx hb dX12_deal_35 (by decide) ?_
    exact RI (v := 0) hC hP hD hS [0, 1, 2, 3, 4] (0, mdealer, mnumber, mwhose, msize, misParted, fnrc) rfl rfl (by decide) (⟨trivial, by omega⟩) rfl dX12_deal_36
set_option maxHeartbeats 4000000 in
set_option maxRecDepth 100000 in
theorem r_trace (l : Launch) (G : GG) (h0 : Nat) (x1 : Int32) (nw : Nat) (nk : Nat) (mhasKept : Int32) (nt : Nat) (mtaped : Int32) (nr : Nat) (mrowMany : Int32) (mroundOf : Int32) (mroundFrom : Int32) (mouts : Int32) (nm : Nat) (mfromHour : Int32) (mtoHour : Int32) (ns : Nat) (mfrom : Int32) (mto : Int32) (msort : Int32) (misFault : Int32) (mdeep : Int32) (mcoded : Int32) (mlines : Int32) (nl : Nat) (nc : Nat) (nF : Nat) (np : Nat) (ntr : Nat) (nb : Nat) (mbestCost : Int32) (nso : Nat) (nsi : Nat) (nit : Nat) (nsh : Nat) (nsf : Nat) (nss : Nat) (nrc : Nat) (jr : Nat) (mdealer : Int32) (mnumber : Int32) (mwhose : Int32) (msize : Int32) (misParted : Int32) (fnrc : Nat → Int32) (hjr : jr ≤ 30) : MP l G yX12_trace cX12_trace 2 (some .int) 2 [.ref h0, .int x1] [(h0, .inr (12, [.ref nw, .ref nk, .int mhasKept, .ref nt, .int mtaped, .ref nr, .int mrowMany, .int mroundOf, .int mroundFrom, .int mouts, .ref nm, .int mfromHour, .int mtoHour, .ref ns, .int mfrom, .int mto, .int msort, .int misFault, .int mdeep, .int mcoded, .int mlines, .ref nl, .ref nc, .ref nF, .ref np, .ref ntr, .ref nb, .int mbestCost, .ref nso, .ref nsi, .ref nit, .ref nsh, .ref nsf, .ref nss, .ref nrc, .int (nI jr), .int mdealer, .int mnumber, .int mwhose, .int msize, .int misParted])), (nrc, .inl (G.2.1, 30, .inl fnrc))] (fun r : Int32 => True) := by
  refine MP.start (by decide +kernel) (Nat.le_of_ble_eq_true rfl) ?_
  intro p e s m below meth c ls hC hK hP hD hl
  have hl : lv_has ls 2 [(0, .ref h0), (1, .int x1)] := hl
  obtain ⟨hx, hb, hr, hml, hB, hown, hlocks, hnm⟩ := id hC
  refine lv_iload_n hx hb dX12_trace_0 rfl (lv_at hl 1 rfl) ?_
  refine lv_iconst (v := 0) hx hb dX12_trace_1 (by decide) ?_
  refine lv_aload_n hx hb dX12_trace_2 rfl (lv_at hl 0 rfl) ?_
  refine gf_X12_351 hC rfl hK hP 0 rfl rfl dX12_trace_3 ?_
  refine lv_iconst (v := 1) hx hb dX12_trace_6 (by decide) ?_
  refine lv_isub hx hb dX12_trace_7 ?_
  refine eqi (x1 := (nI jr) - 1) (rfl) ?_
  refine pS hC hK hl (m_within l G x1 0 ((nI jr) - 1)) si_X12_84 rfl rfl (Nat.le_of_ble_eq_true rfl) ⟨Nat.le_of_ble_eq_true rfl, Nat.le_of_ble_eq_true rfl⟩ ⟨by first | exact Nat.le_of_ble_eq_true rfl | exact Nat.zero_le _, by first | exact Nat.le_of_ble_eq_true rfl | exact Nat.zero_le _⟩ dX12_trace_8 (fun r6797 hr6797 => ?_)
  rcases hr6797 with ⟨rfl, a6798⟩ | ⟨rfl, a6798⟩
  · refine lv_if_eq (tgt := 23) hx hb dX12_trace_11 (by decide) (fun c9 => absurd c9 (by decide)) (fun _ => ?_)
    obtain ⟨ji, hji, rfl⟩ := Hs_nat (by omega) ((WiHs (by omega)).mp a6798)
    refine lv_aload_n hx hb dX12_trace_14 rfl (lv_at hl 0 rfl) ?_
    refine gf_X12_81 hC rfl hK hP 0 rfl rfl dX12_trace_15 ?_
    refine lv_iload_n hx hb dX12_trace_18 rfl (lv_at hl 1 rfl) ?_
    refine ald hC hK hP 1 rfl (vp_in_nI (by omega) (by omega)) (k := ji) (nI_clamp (by omega)) (v := fnrc ji) rfl dX12_trace_19 ?_
    refine lv_topi (fun x6799 ex6799 => ?_)
    refine lv_goto (tgt := 25) hx hb dX12_trace_20 (by decide) ?_
    exact RP (v := x6799) hC (trivial) rfl dX12_trace_25
  · refine lv_if_eq (tgt := 23) hx hb dX12_trace_11 (by decide) (fun _ => ?_) (fun c9 => absurd (by decide) c9)
    refine lv_bipush (v := (-3)) hx hb dX12_trace_23 (by decide) ?_
    exact RP (v := (-3)) hC (trivial) rfl dX12_trace_25
set_option maxHeartbeats 4000000 in
set_option maxRecDepth 100000 in
theorem r_many (l : Launch) (G : GG) (h0 : Nat) (x1 : Int32) (nw : Nat) (nk : Nat) (mhasKept : Int32) (nt : Nat) (mtaped : Int32) (nr : Nat) (mrowMany : Int32) (mroundOf : Int32) (mroundFrom : Int32) (mouts : Int32) (nm : Nat) (mfromHour : Int32) (mtoHour : Int32) (ns : Nat) (mfrom : Int32) (mto : Int32) (msort : Int32) (misFault : Int32) (mdeep : Int32) (mcoded : Int32) (mlines : Int32) (nl : Nat) (nc : Nat) (nF : Nat) (np : Nat) (ntr : Nat) (nb : Nat) (mbestCost : Int32) (nso : Nat) (nsi : Nat) (nit : Nat) (nsh : Nat) (nsf : Nat) (nss : Nat) (nrc : Nat) (mtraced : Int32) (mdealer : Int32) (mnumber : Int32) (mwhose : Int32) (msize : Int32) (misParted : Int32) (fnw : Nat → Int32) (fnm : Nat → Int32) (fns : Nat → Int32) (fnp : Nat → Int32) (hN : NI fnw) (hV : VI fnw) (hM : MB fnm) : MI l G yX12_many cX12_many 4 (some .int) 10 0 0 [.ref h0, .int x1] [(h0, .inr (12, [.ref nw, .ref nk, .int mhasKept, .ref nt, .int mtaped, .ref nr, .int mrowMany, .int mroundOf, .int mroundFrom, .int mouts, .ref nm, .int mfromHour, .int mtoHour, .ref ns, .int mfrom, .int mto, .int msort, .int misFault, .int mdeep, .int mcoded, .int mlines, .ref nl, .ref nc, .ref nF, .ref np, .ref ntr, .ref nb, .int mbestCost, .ref nso, .ref nsi, .ref nit, .ref nsh, .ref nsf, .ref nss, .ref nrc, .int mtraced, .int mdealer, .int mnumber, .int mwhose, .int msize, .int misParted])), (nw, .inl (G.2.1, 1662, .inl fnw)), (nm, .inl (G.2.1, 36, .inl fnm)), (ns, .inl (G.2.1, 8, .inl fns)), (np, .inl (G.2.1, 100, .inl fnp))] (fun (r : Int32) (u : Int32 × Int32 × (Nat → Int32) × (Nat → Int32) × (Nat → Int32)) => (True) ∧ (MB u.2.2.1)) (fun u : Int32 × Int32 × (Nat → Int32) × (Nat → Int32) × (Nat → Int32) => [(h0, .inr (12, [.ref nw, .ref nk, .int mhasKept, .ref nt, .int mtaped, .ref nr, .int mrowMany, .int mroundOf, .int mroundFrom, .int mouts, .ref nm, .int u.1, .int u.2.1, .ref ns, .int mfrom, .int mto, .int msort, .int misFault, .int mdeep, .int mcoded, .int mlines, .ref nl, .ref nc, .ref nF, .ref np, .ref ntr, .ref nb, .int mbestCost, .ref nso, .ref nsi, .ref nit, .ref nsh, .ref nsf, .ref nss, .ref nrc, .int mtraced, .int mdealer, .int mnumber, .int mwhose, .int msize, .int misParted])), (nw, .inl (G.2.1, 1662, .inl fnw)), (nm, .inl (G.2.1, 36, .inl u.2.2.1)), (ns, .inl (G.2.1, 8, .inl u.2.2.2.1)), (np, .inl (G.2.1, 100, .inl u.2.2.2.2))]) := by
  refine MI.start (by decide +kernel) (Nat.le_of_ble_eq_true rfl) ?_
  intro p e s m below meth c A ls hC hK hP hD hS hA hl
  have hl : lv_has ls 4 [(0, .ref h0), (1, .int x1)] := hl
  obtain ⟨hx, hb, hr, hml, hB, hown, hlocks, hnm⟩ := id hC
  obtain ⟨k9, hk9, ek9⟩ := NI.nat hN (i := 9) (B := 12) (by decide +kernel) (by decide)
  refine lv_iload_n hx hb dX12_many_0 rfl (lv_at hl 1 rfl) ?_
  by_cases c_1_6800 : x1 = 0
  · refine lv_tableIn (tgt := 76) hx hb dX12_many_1 (by rw [c_1_6800]; decide) (by rw [c_1_6800]; decide) (by rw [c_1_6800]; rfl) (by decide) ?_
    refine lv_aload_n hx hb dX12_many_76 rfl (lv_at hl 0 rfl) ?_
    refine gf_X12_9 hC rfl hK hP 0 rfl rfl dX12_many_77 ?_
    refine lv_iconst (v := 0) hx hb dX12_many_80 (by decide) ?_
    refine ald hC hK hP 1 rfl (vin (by decide +kernel)) (k := 0) (by decide +kernel) (v := fnw 0) (rfl) dX12_many_81 ?_
    exact RI (v := fnw 0) hC hP hD hS [0, 1, 2, 3, 4] (mfromHour, mtoHour, fnm, fns, fnp) rfl rfl (by decide) (⟨trivial, by first | assumption | exact hM⟩) rfl dX12_many_82
  by_cases c_1_6801 : x1 = 1
  · refine lv_tableIn (tgt := 83) hx hb dX12_many_1 (by rw [c_1_6801]; decide) (by rw [c_1_6801]; decide) (by rw [c_1_6801]; rfl) (by decide) ?_
    refine lv_aload_n hx hb dX12_many_83 rfl (lv_at hl 0 rfl) ?_
    refine gf_X12_9 hC rfl hK hP 0 rfl rfl dX12_many_84 ?_
    refine lv_iconst (v := 4) hx hb dX12_many_87 (by decide) ?_
    refine ald hC hK hP 1 rfl (vin (by decide +kernel)) (k := 4) (by decide +kernel) (v := fnw 4) (rfl) dX12_many_88 ?_
    exact RI (v := fnw 4) hC hP hD hS [0, 1, 2, 3, 4] (mfromHour, mtoHour, fnm, fns, fnp) rfl rfl (by decide) (⟨trivial, by first | assumption | exact hM⟩) rfl dX12_many_89
  by_cases c_1_6802 : x1 = 2
  · refine lv_tableIn (tgt := 90) hx hb dX12_many_1 (by rw [c_1_6802]; decide) (by rw [c_1_6802]; decide) (by rw [c_1_6802]; rfl) (by decide) ?_
    refine lv_aload_n hx hb dX12_many_90 rfl (lv_at hl 0 rfl) ?_
    refine gf_X12_9 hC rfl hK hP 0 rfl rfl dX12_many_91 ?_
    refine lv_iconst (v := 5) hx hb dX12_many_94 (by decide) ?_
    refine ald hC hK hP 1 rfl (vin (by decide +kernel)) (k := 5) (by decide +kernel) (v := fnw 5) (rfl) dX12_many_95 ?_
    exact RI (v := fnw 5) hC hP hD hS [0, 1, 2, 3, 4] (mfromHour, mtoHour, fnm, fns, fnp) rfl rfl (by decide) (⟨trivial, by first | assumption | exact hM⟩) rfl dX12_many_96
  by_cases c_1_6803 : x1 = 3
  · refine lv_tableIn (tgt := 97) hx hb dX12_many_1 (by rw [c_1_6803]; decide) (by rw [c_1_6803]; decide) (by rw [c_1_6803]; rfl) (by decide) ?_
    refine lv_aload_n hx hb dX12_many_97 rfl (lv_at hl 0 rfl) ?_
    refine pV hC hK hl hP hD (m_inView l G h0 nw nk mhasKept nt mtaped nr mrowMany mroundOf mroundFrom mouts nm mfromHour mtoHour ns mfrom mto msort misFault mdeep mcoded mlines nl nc nF np ntr nb mbestCost nso nsi nit nsh nsf nss nrc mtraced mdealer mnumber mwhose msize misParted fnw (hN)) si_X12_107 [0, 1] rfl rfl (by decide) rfl rfl rfl rfl rfl (Nat.le_of_ble_eq_true rfl) ⟨Nat.le_of_ble_eq_true rfl, Nat.le_of_ble_eq_true rfl⟩ ⟨by first | exact Nat.le_of_ble_eq_true rfl | exact Nat.zero_le _, by first | exact Nat.le_of_ble_eq_true rfl | exact Nat.zero_le _⟩ dX12_many_98 (fun r6804 hr6804 => ?_)
    refine pS hC hK hl (m_bits l G r6804) si_X12_110 rfl rfl (Nat.le_of_ble_eq_true rfl) ⟨Nat.le_of_ble_eq_true rfl, Nat.le_of_ble_eq_true rfl⟩ ⟨by first | exact Nat.le_of_ble_eq_true rfl | exact Nat.zero_le _, by first | exact Nat.le_of_ble_eq_true rfl | exact Nat.zero_le _⟩ dX12_many_101 (fun r6805 hr6805 => ?_)
    exact RI (v := r6805) hC hP hD hS [0, 1, 2, 3, 4] (mfromHour, mtoHour, fnm, fns, fnp) rfl rfl (by decide) (⟨trivial, by first | assumption | exact hM⟩) rfl dX12_many_104
  by_cases c_1_6806 : x1 = 4
  · refine lv_tableIn (tgt := 105) hx hb dX12_many_1 (by rw [c_1_6806]; decide) (by rw [c_1_6806]; decide) (by rw [c_1_6806]; rfl) (by decide) ?_
    refine lv_aload_n hx hb dX12_many_105 rfl (lv_at hl 0 rfl) ?_
    refine gf_X12_9 hC rfl hK hP 0 rfl rfl dX12_many_106 ?_
    refine lv_bipush (v := 6) hx hb dX12_many_109 (by decide) ?_
    refine ald hC hK hP 1 rfl (vin (by decide +kernel)) (k := 6) (by decide +kernel) (v := fnw 6) (rfl) dX12_many_111 ?_
    exact RI (v := fnw 6) hC hP hD hS [0, 1, 2, 3, 4] (mfromHour, mtoHour, fnm, fns, fnp) rfl rfl (by decide) (⟨trivial, by first | assumption | exact hM⟩) rfl dX12_many_112
  by_cases c_1_6807 : x1 = 5
  · refine lv_tableIn (tgt := 113) hx hb dX12_many_1 (by rw [c_1_6807]; decide) (by rw [c_1_6807]; decide) (by rw [c_1_6807]; rfl) (by decide) ?_
    refine lv_aload_n hx hb dX12_many_113 rfl (lv_at hl 0 rfl) ?_
    refine gf_X12_9 hC rfl hK hP 0 rfl rfl dX12_many_114 ?_
    refine lv_bipush (v := 7) hx hb dX12_many_117 (by decide) ?_
    refine ald hC hK hP 1 rfl (vin (by decide +kernel)) (k := 7) (by decide +kernel) (v := fnw 7) (rfl) dX12_many_119 ?_
    exact RI (v := fnw 7) hC hP hD hS [0, 1, 2, 3, 4] (mfromHour, mtoHour, fnm, fns, fnp) rfl rfl (by decide) (⟨trivial, by first | assumption | exact hM⟩) rfl dX12_many_120
  by_cases c_1_6808 : x1 = 6
  · refine lv_tableIn (tgt := 121) hx hb dX12_many_1 (by rw [c_1_6808]; decide) (by rw [c_1_6808]; decide) (by rw [c_1_6808]; rfl) (by decide) ?_
    refine lv_aload_n hx hb dX12_many_121 rfl (lv_at hl 0 rfl) ?_
    refine gf_X12_9 hC rfl hK hP 0 rfl rfl dX12_many_122 ?_
    refine lv_bipush (v := 8) hx hb dX12_many_125 (by decide) ?_
    refine ald hC hK hP 1 rfl (vin (by decide +kernel)) (k := 8) (by decide +kernel) (v := fnw 8) (rfl) dX12_many_127 ?_
    exact RI (v := fnw 8) hC hP hD hS [0, 1, 2, 3, 4] (mfromHour, mtoHour, fnm, fns, fnp) rfl rfl (by decide) (⟨trivial, by first | assumption | exact hM⟩) rfl dX12_many_128
  by_cases c_1_6809 : x1 = 7
  · refine lv_tableIn (tgt := 129) hx hb dX12_many_1 (by rw [c_1_6809]; decide) (by rw [c_1_6809]; decide) (by rw [c_1_6809]; rfl) (by decide) ?_
    refine lv_aload_n hx hb dX12_many_129 rfl (lv_at hl 0 rfl) ?_
    refine lv_iconst (v := (-1)) hx hb dX12_many_130 (by decide) ?_
    refine pV hC hK hl hP hD (m_saidBy l G h0 (-1) nw nk mhasKept nt mtaped nr mrowMany mroundOf mroundFrom mouts nm mfromHour mtoHour ns mfrom mto msort misFault mdeep mcoded mlines nl nc nF np ntr nb mbestCost nso nsi nit nsh nsf nss nrc mtraced mdealer mnumber mwhose msize misParted fnw (hN)) si_X12_127 [0, 1] rfl rfl (by decide) rfl rfl rfl rfl rfl (Nat.le_of_ble_eq_true rfl) ⟨Nat.le_of_ble_eq_true rfl, Nat.le_of_ble_eq_true rfl⟩ ⟨by first | exact Nat.le_of_ble_eq_true rfl | exact Nat.zero_le _, by first | exact Nat.le_of_ble_eq_true rfl | exact Nat.zero_le _⟩ dX12_many_131 (fun r6810 hr6810 => ?_)
    exact RI (v := r6810) hC hP hD hS [0, 1, 2, 3, 4] (mfromHour, mtoHour, fnm, fns, fnp) rfl rfl (by decide) (⟨trivial, by first | assumption | exact hM⟩) rfl dX12_many_134
  by_cases c_1_6811 : x1 = 8
  · refine lv_tableIn (tgt := 135) hx hb dX12_many_1 (by rw [c_1_6811]; decide) (by rw [c_1_6811]; decide) (by rw [c_1_6811]; rfl) (by decide) ?_
    refine lv_aload_n hx hb dX12_many_135 rfl (lv_at hl 0 rfl) ?_
    refine gf_X12_9 hC rfl hK hP 0 rfl rfl dX12_many_136 ?_
    refine lv_bipush (v := 9) hx hb dX12_many_139 (by decide) ?_
    refine ald hC hK hP 1 rfl (vin (by decide +kernel)) (k := 9) (by decide +kernel) (v := nI k9) (ek9) dX12_many_141 ?_
    exact RI (v := nI k9) hC hP hD hS [0, 1, 2, 3, 4] (mfromHour, mtoHour, fnm, fns, fnp) rfl rfl (by decide) (⟨trivial, by first | assumption | exact hM⟩) rfl dX12_many_142
  by_cases c_1_6812 : x1 = 9
  · refine lv_tableIn (tgt := 143) hx hb dX12_many_1 (by rw [c_1_6812]; decide) (by rw [c_1_6812]; decide) (by rw [c_1_6812]; rfl) (by decide) ?_
    refine lv_iconst (v := 0) hx hb dX12_many_143 (by decide) ?_
    refine lv_istore_n (lv' := [(2, .int 0), (0, .ref h0), (1, .int x1)]) hx hb dX12_many_144 rfl hl (by decide) rfl (fun ls hl => ?_)
    refine lv_iconst (v := 0) hx hb dX12_many_145 (by decide) ?_
    refine lv_istore_n (lv' := [(3, .int 0), (2, .int 0), (0, .ref h0), (1, .int x1)]) hx hb dX12_many_146 rfl hl (by decide) rfl (fun ls hl => ?_)
    have keyP : ∀ (nP kP : Nat) (nn : Int32) (vfh : Int32) (vth : Int32) (vA : Nat → Int32) (vS : Nat → Int32) (vR : Nat → Int32) (H : Heap) (locs : List Loc) (ls : Array Slot), kP + nP = k9 → (MB vA) → va_P G.1 vwCl [(h0, .inr (12, [.ref nw, .ref nk, .int mhasKept, .ref nt, .int mtaped, .ref nr, .int mrowMany, .int mroundOf, .int mroundFrom, .int mouts, .ref nm, .int vfh, .int vth, .ref ns, .int mfrom, .int mto, .int msort, .int misFault, .int mdeep, .int mcoded, .int mlines, .ref nl, .ref nc, .ref nF, .ref np, .ref ntr, .ref nb, .int mbestCost, .ref nso, .ref nsi, .ref nit, .ref nsh, .ref nsf, .ref nss, .ref nrc, .int mtraced, .int mdealer, .int mnumber, .int mwhose, .int msize, .int misParted])), (nw, .inl (G.2.1, 1662, .inl fnw)), (nm, .inl (G.2.1, 36, .inl vA)), (ns, .inl (G.2.1, 8, .inl vS)), (np, .inl (G.2.1, 100, .inl vR))] H → va_D A [(h0, .inr (12, [.ref nw, .ref nk, .int mhasKept, .ref nt, .int mtaped, .ref nr, .int mrowMany, .int mroundOf, .int mroundFrom, .int mouts, .ref nm, .int vfh, .int vth, .ref ns, .int mfrom, .int mto, .int msort, .int misFault, .int mdeep, .int mcoded, .int mlines, .ref nl, .ref nc, .ref nF, .ref np, .ref ntr, .ref nb, .int mbestCost, .ref nso, .ref nsi, .ref nit, .ref nsh, .ref nsf, .ref nss, .ref nrc, .int mtraced, .int mdealer, .int mnumber, .int mwhose, .int msize, .int misParted])), (nw, .inl (G.2.1, 1662, .inl fnw)), (nm, .inl (G.2.1, 36, .inl vA)), (ns, .inl (G.2.1, 8, .inl vS)), (np, .inl (G.2.1, 100, .inl vR))] → va_S A s.heap H locs → lv_has ls 4 [(3, .int (nI kP)), (2, .int nn), (0, .ref h0), (1, .int x1)] → W p l e (RM 10 0 0) s m ([.ref h0, .int x1] : List Value).toArray below meth c H locs 0 0 (MQ below (QI G (fun (r : Int32) (u : Int32 × Int32 × (Nat → Int32) × (Nat → Int32) × (Nat → Int32)) => (True) ∧ (MB u.2.2.1)) (fun u : Int32 × Int32 × (Nat → Int32) × (Nat → Int32) × (Nat → Int32) => [(h0, .inr (12, [.ref nw, .ref nk, .int mhasKept, .ref nt, .int mtaped, .ref nr, .int mrowMany, .int mroundOf, .int mroundFrom, .int mouts, .ref nm, .int u.1, .int u.2.1, .ref ns, .int mfrom, .int mto, .int msort, .int misFault, .int mdeep, .int mcoded, .int mlines, .ref nl, .ref nc, .ref nF, .ref np, .ref ntr, .ref nb, .int mbestCost, .ref nso, .ref nsi, .ref nit, .ref nsh, .ref nsf, .ref nss, .ref nrc, .int mtraced, .int mdealer, .int mnumber, .int mwhose, .int msize, .int misParted])), (nw, .inl (G.2.1, 1662, .inl fnw)), (nm, .inl (G.2.1, 36, .inl u.2.2.1)), (ns, .inl (G.2.1, 8, .inl u.2.2.2.1)), (np, .inl (G.2.1, 100, .inl u.2.2.2.2))]) A) ([.ref h0, .int x1] : List Value).toArray s 0 0 A) (F0 m 147 ls []) := by
      intro nP
      induction nP with
      | zero =>
        intro kP nn vfh vth vA vS vR H locs ls hkP hvA hP hD hS hl
        obtain rfl : k9 = kP := by omega
        have hl : lv_has ls 4 [(3, .int (nI k9)), (2, .int nn), (0, .ref h0), (1, .int x1)] := hl
        refine lv_iload_n hx hb dX12_many_147 rfl (lv_at hl 0 rfl) ?_
        refine lv_aload_n hx hb dX12_many_148 rfl (lv_at hl 2 rfl) ?_
        refine gf_X12_9 hC rfl hK hP 0 rfl rfl dX12_many_149 ?_
        refine lv_bipush (v := 9) hx hb dX12_many_152 (by decide) ?_
        refine ald hC hK hP 1 rfl (vin (by decide +kernel)) (k := 9) (by decide +kernel) (v := nI k9) (ek9) dX12_many_154 ?_
        refine lv_icmp_ge (tgt := 180) hx hb dX12_many_155 (by decide) (fun _ => ?_) (fun c9 => absurd (Int32.le_refl _) c9)
        refine lv_iload_n hx hb dX12_many_180 rfl (lv_at hl 1 rfl) ?_
        exact RI (v := nn) hC hP hD hS [0, 1, 2, 3, 4] (vfh, vth, vA, vS, vR) rfl rfl (by decide) (⟨trivial, by first | assumption | exact hM⟩) rfl dX12_many_181
      | succ nP ihP =>
        intro kP nn vfh vth vA vS vR H locs ls hkP hvA hP hD hS hl
        refine lv_iload_n hx hb dX12_many_147 rfl (lv_at hl 0 rfl) ?_
        refine lv_aload_n hx hb dX12_many_148 rfl (lv_at hl 2 rfl) ?_
        refine gf_X12_9 hC rfl hK hP 0 rfl rfl dX12_many_149 ?_
        refine lv_bipush (v := 9) hx hb dX12_many_152 (by decide) ?_
        refine ald hC hK hP 1 rfl (vin (by decide +kernel)) (k := 9) (by decide +kernel) (v := nI k9) (ek9) dX12_many_154 ?_
        refine lv_icmp_ge (tgt := 180) hx hb dX12_many_155 (by decide) (fun c9 => absurd c9 (nI_ge (a := kP) (b := k9) (by omega) (by omega))) (fun _ => ?_)
        refine lv_iload_n hx hb dX12_many_158 rfl (lv_at hl 1 rfl) ?_
        refine lv_aload_n hx hb dX12_many_159 rfl (lv_at hl 2 rfl) ?_
        refine lv_iload_n hx hb dX12_many_160 rfl (lv_at hl 0 rfl) ?_
        refine iV (wr := []) hC hK hl hP hD hS hA (m_stands l G h0 kP nw nk mhasKept nt mtaped nr mrowMany mroundOf mroundFrom mouts nm vfh vth ns mfrom mto msort misFault mdeep mcoded mlines nl nc nF np ntr nb mbestCost nso nsi nit nsh nsf nss nrc mtraced mdealer mnumber mwhose msize misParted fnw vA vS vR (by omega) (hN) (hV) (hvA)) si_X12_305 [0, 1, 2, 3, 4] [] rfl rfl (by decide) rfl (by decide) (by decide) rfl rfl rfl rfl rfl (Nat.le_of_ble_eq_true rfl) ⟨Nat.le_of_ble_eq_true rfl, Nat.le_of_ble_eq_true rfl⟩ ⟨Nat.le_of_ble_eq_true rfl, Nat.le_of_ble_eq_true rfl⟩ dX12_many_161 (fun r6813 u6814 H locs hr6813 hP hD hS => ?_)
        obtain ⟨fh16815, th16816, gnm6817, gns6818, gnp6819⟩ := u6814
        try dsimp only at hr6813
        have hP : va_P G.1 vwCl [(h0, .inr (12, [.ref nw, .ref nk, .int mhasKept, .ref nt, .int mtaped, .ref nr, .int mrowMany, .int mroundOf, .int mroundFrom, .int mouts, .ref nm, .int fh16815, .int th16816, .ref ns, .int mfrom, .int mto, .int msort, .int misFault, .int mdeep, .int mcoded, .int mlines, .ref nl, .ref nc, .ref nF, .ref np, .ref ntr, .ref nb, .int mbestCost, .ref nso, .ref nsi, .ref nit, .ref nsh, .ref nsf, .ref nss, .ref nrc, .int mtraced, .int mdealer, .int mnumber, .int mwhose, .int msize, .int misParted])), (nw, .inl (G.2.1, 1662, .inl fnw)), (nm, .inl (G.2.1, 36, .inl gnm6817)), (ns, .inl (G.2.1, 8, .inl gns6818)), (np, .inl (G.2.1, 100, .inl gnp6819))] H := hP
        have hD : va_D A [(h0, .inr (12, [.ref nw, .ref nk, .int mhasKept, .ref nt, .int mtaped, .ref nr, .int mrowMany, .int mroundOf, .int mroundFrom, .int mouts, .ref nm, .int fh16815, .int th16816, .ref ns, .int mfrom, .int mto, .int msort, .int misFault, .int mdeep, .int mcoded, .int mlines, .ref nl, .ref nc, .ref nF, .ref np, .ref ntr, .ref nb, .int mbestCost, .ref nso, .ref nsi, .ref nit, .ref nsh, .ref nsf, .ref nss, .ref nrc, .int mtraced, .int mdealer, .int mnumber, .int mwhose, .int msize, .int misParted])), (nw, .inl (G.2.1, 1662, .inl fnw)), (nm, .inl (G.2.1, 36, .inl gnm6817)), (ns, .inl (G.2.1, 8, .inl gns6818)), (np, .inl (G.2.1, 100, .inl gnp6819))] := hD
        obtain ⟨hr6813, w6820⟩ := hr6813
        rcases hr6813 with rfl | rfl
        · refine lv_if_eq (tgt := 171) hx hb dX12_many_164 (by decide) (fun c9 => absurd c9 (by decide)) (fun _ => ?_)
          refine lv_iconst (v := 1) hx hb dX12_many_167 (by decide) ?_
          refine lv_goto (tgt := 172) hx hb dX12_many_168 (by decide) ?_
          refine lv_iadd hx hb dX12_many_172 ?_
          refine lv_istore_n (lv' := [(2, .int (nn + 1)), (3, .int (nI kP)), (0, .ref h0), (1, .int x1)]) hx hb dX12_many_173 rfl hl (by decide) rfl (fun ls hl => ?_)
          refine lv_iinc (v := nI (kP + 1)) (lv' := [(3, .int (nI (kP + 1))), (2, .int (nn + 1)), (0, .ref h0), (1, .int x1)]) hx hb dX12_many_174 hl (k := 1) rfl (nI_1 _) (by decide) rfl (fun ls hl => ?_)
          refine lv_goto (tgt := 147) hx hb dX12_many_177 (by decide) ?_
          exact ihP (kP + 1) (nn + 1) fh16815 th16816 gnm6817 gns6818 gnp6819 _ _ _ (by omega) (by first | assumption | exact Or.inl rfl | exact Or.inr rfl) hP hD hS (lv_sub hl [0, 1, 2, 3] rfl)
        · refine lv_if_eq (tgt := 171) hx hb dX12_many_164 (by decide) (fun _ => ?_) (fun c9 => absurd (by decide) c9)
          refine lv_iconst (v := 0) hx hb dX12_many_171 (by decide) ?_
          refine lv_iadd hx hb dX12_many_172 ?_
          refine lv_istore_n (lv' := [(2, .int (nn + 0)), (3, .int (nI kP)), (0, .ref h0), (1, .int x1)]) hx hb dX12_many_173 rfl hl (by decide) rfl (fun ls hl => ?_)
          refine lv_iinc (v := nI (kP + 1)) (lv' := [(3, .int (nI (kP + 1))), (2, .int (nn + 0)), (0, .ref h0), (1, .int x1)]) hx hb dX12_many_174 hl (k := 1) rfl (nI_1 _) (by decide) rfl (fun ls hl => ?_)
          refine lv_goto (tgt := 147) hx hb dX12_many_177 (by decide) ?_
          exact ihP (kP + 1) (nn + 0) fh16815 th16816 gnm6817 gns6818 gnp6819 _ _ _ (by omega) (by first | assumption | exact Or.inl rfl | exact Or.inr rfl) hP hD hS (lv_sub hl [0, 1, 2, 3] rfl)
    exact keyP k9 0 0 mfromHour mtoHour fnm fns fnp _ _ _ (by omega) (by first | assumption | exact Or.inl rfl | exact Or.inr rfl) hP hD hS (lv_sub hl [0, 1, 2, 3] rfl)
  by_cases c_1_6822 : x1 = 10
  · refine lv_tableIn (tgt := 182) hx hb dX12_many_1 (by rw [c_1_6822]; decide) (by rw [c_1_6822]; decide) (by rw [c_1_6822]; rfl) (by decide) ?_
    refine lv_aload_n hx hb dX12_many_182 rfl (lv_at hl 0 rfl) ?_
    refine gf_X12_9 hC rfl hK hP 0 rfl rfl dX12_many_183 ?_
    refine lv_bipush (v := 10) hx hb dX12_many_186 (by decide) ?_
    refine ald hC hK hP 1 rfl (vin (by decide +kernel)) (k := 10) (by decide +kernel) (v := fnw 10) (rfl) dX12_many_188 ?_
    exact RI (v := fnw 10) hC hP hD hS [0, 1, 2, 3, 4] (mfromHour, mtoHour, fnm, fns, fnp) rfl rfl (by decide) (⟨trivial, by first | assumption | exact hM⟩) rfl dX12_many_189
  by_cases c_1_6823 : x1 = 11
  · refine lv_tableIn (tgt := 190) hx hb dX12_many_1 (by rw [c_1_6823]; decide) (by rw [c_1_6823]; decide) (by rw [c_1_6823]; rfl) (by decide) ?_
    refine lv_aload_n hx hb dX12_many_190 rfl (lv_at hl 0 rfl) ?_
    refine gf_X12_9 hC rfl hK hP 0 rfl rfl dX12_many_191 ?_
    refine lv_bipush (v := 11) hx hb dX12_many_194 (by decide) ?_
    refine ald hC hK hP 1 rfl (vin (by decide +kernel)) (k := 11) (by decide +kernel) (v := fnw 11) (rfl) dX12_many_196 ?_
    exact RI (v := fnw 11) hC hP hD hS [0, 1, 2, 3, 4] (mfromHour, mtoHour, fnm, fns, fnp) rfl rfl (by decide) (⟨trivial, by first | assumption | exact hM⟩) rfl dX12_many_197
  by_cases c_1_6824 : x1 = 12
  · refine lv_tableIn (tgt := 198) hx hb dX12_many_1 (by rw [c_1_6824]; decide) (by rw [c_1_6824]; decide) (by rw [c_1_6824]; rfl) (by decide) ?_
    refine lv_aload_n hx hb dX12_many_198 rfl (lv_at hl 0 rfl) ?_
    refine gf_X12_327 hC rfl hK hP 0 rfl rfl dX12_many_199 ?_
    exact RI (v := mrowMany) hC hP hD hS [0, 1, 2, 3, 4] (mfromHour, mtoHour, fnm, fns, fnp) rfl rfl (by decide) (⟨trivial, by first | assumption | exact hM⟩) rfl dX12_many_202
  by_cases c_1_6825 : x1 = 13
  · refine lv_tableIn (tgt := 203) hx hb dX12_many_1 (by rw [c_1_6825]; decide) (by rw [c_1_6825]; decide) (by rw [c_1_6825]; rfl) (by decide) ?_
    refine lv_aload_n hx hb dX12_many_203 rfl (lv_at hl 0 rfl) ?_
    refine gf_X12_206 hC rfl hK hP 0 rfl rfl dX12_many_204 ?_
    exact RI (v := mtaped) hC hP hD hS [0, 1, 2, 3, 4] (mfromHour, mtoHour, fnm, fns, fnp) rfl rfl (by decide) (⟨trivial, by first | assumption | exact hM⟩) rfl dX12_many_207
  by_cases c_1_6826 : x1 = 14
  · refine lv_tableIn (tgt := 208) hx hb dX12_many_1 (by rw [c_1_6826]; decide) (by rw [c_1_6826]; decide) (by rw [c_1_6826]; rfl) (by decide) ?_
    refine lv_aload_n hx hb dX12_many_208 rfl (lv_at hl 0 rfl) ?_
    refine gf_X12_351 hC rfl hK hP 0 rfl rfl dX12_many_209 ?_
    exact RI (v := mtraced) hC hP hD hS [0, 1, 2, 3, 4] (mfromHour, mtoHour, fnm, fns, fnp) rfl rfl (by decide) (⟨trivial, by first | assumption | exact hM⟩) rfl dX12_many_212
  refine lv_tableOut (tgt := 213) hx hb dX12_many_1 (by have q9 := sw_0_14 (x := x1); simp only [c_1_6800, c_1_6801, c_1_6802, c_1_6803, c_1_6806, c_1_6807, c_1_6808, c_1_6809, c_1_6811, c_1_6812, c_1_6822, c_1_6823, c_1_6824, c_1_6825, c_1_6826, not_false_eq_true, true_implies] at q9; exact q9) (by decide) ?_
  refine lv_iconst (v := (-1)) hx hb dX12_many_213 (by decide) ?_
  exact RI (v := (-1)) hC hP hD hS [0, 1, 2, 3, 4] (mfromHour, mtoHour, fnm, fns, fnp) rfl rfl (by decide) (⟨trivial, by first | assumption | exact hM⟩) rfl dX12_many_214
set_option maxHeartbeats 4000000 in
set_option maxRecDepth 100000 in
theorem w_keep (l : Launch) (G : GG) (h0 : Nat) (nw : Nat) (nk : Nat) (mhasKept : Int32) (nt : Nat) (mtaped : Int32) (nr : Nat) (mrowMany : Int32) (mroundOf : Int32) (mroundFrom : Int32) (mouts : Int32) (nm : Nat) (mfromHour : Int32) (mtoHour : Int32) (ns : Nat) (mfrom : Int32) (mto : Int32) (msort : Int32) (misFault : Int32) (mdeep : Int32) (mcoded : Int32) (mlines : Int32) (nl : Nat) (nc : Nat) (nF : Nat) (np : Nat) (ntr : Nat) (nb : Nat) (mbestCost : Int32) (nso : Nat) (nsi : Nat) (nit : Nat) (nsh : Nat) (nsf : Nat) (nss : Nat) (nrc : Nat) (mtraced : Int32) (mdealer : Int32) (mnumber : Int32) (mwhose : Int32) (msize : Int32) (misParted : Int32) (fnw : Nat → Int32) (fnk : Nat → Int32) (hN : NI fnw) (hV : VI fnw) : MI l G yX12_keep cX12_keep 2 (some .int) 1 0 0 [.ref h0] [(h0, .inr (12, [.ref nw, .ref nk, .int mhasKept, .ref nt, .int mtaped, .ref nr, .int mrowMany, .int mroundOf, .int mroundFrom, .int mouts, .ref nm, .int mfromHour, .int mtoHour, .ref ns, .int mfrom, .int mto, .int msort, .int misFault, .int mdeep, .int mcoded, .int mlines, .ref nl, .ref nc, .ref nF, .ref np, .ref ntr, .ref nb, .int mbestCost, .ref nso, .ref nsi, .ref nit, .ref nsh, .ref nsf, .ref nss, .ref nrc, .int mtraced, .int mdealer, .int mnumber, .int mwhose, .int msize, .int misParted])), (nw, .inl (G.2.1, 1662, .inl fnw)), (nk, .inl (G.2.1, 1662, .inl fnk))] (fun (r : Int32) (u : (Nat → Int32)) => (r = 1) ∧ (NI u ∧ VI u ∧ SCX u (fnw 0) (fnw 1) (fnw 2) (fnw 3) (fnw 4) (fnw 5) (fnw 6) (fnw 8) (fnw 9) (fnw 10) (fnw 11) ∧ AG 1662 fnw u)) (fun u : (Nat → Int32) => [(h0, .inr (12, [.ref nw, .ref nk, .int 1, .ref nt, .int mtaped, .ref nr, .int mrowMany, .int mroundOf, .int mroundFrom, .int mouts, .ref nm, .int mfromHour, .int mtoHour, .ref ns, .int mfrom, .int mto, .int msort, .int misFault, .int mdeep, .int mcoded, .int mlines, .ref nl, .ref nc, .ref nF, .ref np, .ref ntr, .ref nb, .int mbestCost, .ref nso, .ref nsi, .ref nit, .ref nsh, .ref nsf, .ref nss, .ref nrc, .int mtraced, .int mdealer, .int mnumber, .int mwhose, .int msize, .int misParted])), (nw, .inl (G.2.1, 1662, .inl fnw)), (nk, .inl (G.2.1, 1662, .inl u))]) := by
  refine MI.start (by decide +kernel) (Nat.le_of_ble_eq_true rfl) ?_
  intro p e s m below meth c A ls hC hK hP hD hS hA hl
  have hl : lv_has ls 2 [(0, .ref h0)] := hl
  obtain ⟨hx, hb, hr, hml, hB, hown, hlocks, hnm⟩ := id hC
  refine lv_iconst (v := 0) hx hb dX12_keep_0 (by decide) ?_
  refine lv_istore_n (lv' := [(1, .int 0), (0, .ref h0)]) hx hb dX12_keep_1 rfl hl (by decide) rfl (fun ls hl => ?_)
  have keyP : ∀ (nP kP : Nat) (vK : Nat → Int32) (H : Heap) (locs : List Loc) (ls : Array Slot), kP + nP = 1662 → (AG kP fnw vK) → va_P G.1 vwCl [(h0, .inr (12, [.ref nw, .ref nk, .int mhasKept, .ref nt, .int mtaped, .ref nr, .int mrowMany, .int mroundOf, .int mroundFrom, .int mouts, .ref nm, .int mfromHour, .int mtoHour, .ref ns, .int mfrom, .int mto, .int msort, .int misFault, .int mdeep, .int mcoded, .int mlines, .ref nl, .ref nc, .ref nF, .ref np, .ref ntr, .ref nb, .int mbestCost, .ref nso, .ref nsi, .ref nit, .ref nsh, .ref nsf, .ref nss, .ref nrc, .int mtraced, .int mdealer, .int mnumber, .int mwhose, .int msize, .int misParted])), (nw, .inl (G.2.1, 1662, .inl fnw)), (nk, .inl (G.2.1, 1662, .inl vK))] H → va_D A [(h0, .inr (12, [.ref nw, .ref nk, .int mhasKept, .ref nt, .int mtaped, .ref nr, .int mrowMany, .int mroundOf, .int mroundFrom, .int mouts, .ref nm, .int mfromHour, .int mtoHour, .ref ns, .int mfrom, .int mto, .int msort, .int misFault, .int mdeep, .int mcoded, .int mlines, .ref nl, .ref nc, .ref nF, .ref np, .ref ntr, .ref nb, .int mbestCost, .ref nso, .ref nsi, .ref nit, .ref nsh, .ref nsf, .ref nss, .ref nrc, .int mtraced, .int mdealer, .int mnumber, .int mwhose, .int msize, .int misParted])), (nw, .inl (G.2.1, 1662, .inl fnw)), (nk, .inl (G.2.1, 1662, .inl vK))] → va_S A s.heap H locs → lv_has ls 2 [(1, .int (nI kP)), (0, .ref h0)] → W p l e (RM 1 0 0) s m ([.ref h0] : List Value).toArray below meth c H locs 0 0 (MQ below (QI G (fun (r : Int32) (u : (Nat → Int32)) => (r = 1) ∧ (NI u ∧ VI u ∧ SCX u (fnw 0) (fnw 1) (fnw 2) (fnw 3) (fnw 4) (fnw 5) (fnw 6) (fnw 8) (fnw 9) (fnw 10) (fnw 11) ∧ AG 1662 fnw u)) (fun u : (Nat → Int32) => [(h0, .inr (12, [.ref nw, .ref nk, .int 1, .ref nt, .int mtaped, .ref nr, .int mrowMany, .int mroundOf, .int mroundFrom, .int mouts, .ref nm, .int mfromHour, .int mtoHour, .ref ns, .int mfrom, .int mto, .int msort, .int misFault, .int mdeep, .int mcoded, .int mlines, .ref nl, .ref nc, .ref nF, .ref np, .ref ntr, .ref nb, .int mbestCost, .ref nso, .ref nsi, .ref nit, .ref nsh, .ref nsf, .ref nss, .ref nrc, .int mtraced, .int mdealer, .int mnumber, .int mwhose, .int msize, .int misParted])), (nw, .inl (G.2.1, 1662, .inl fnw)), (nk, .inl (G.2.1, 1662, .inl u))]) A) ([.ref h0] : List Value).toArray s 0 0 A) (F0 m 2 ls []) := by
    intro nP
    induction nP with
    | zero =>
      intro kP vK H locs ls hkP hag hP hD hS hl
      obtain rfl : 1662 = kP := by omega
      have hl : lv_has ls 2 [(1, .int 1662), (0, .ref h0)] := hl
      refine lv_iload_n hx hb dX12_keep_2 rfl (lv_at hl 0 rfl) ?_
      refine lv_sipush (v := 1662) hx hb dX12_keep_3 (by decide) ?_
      refine lv_icmp_ge (tgt := 27) hx hb dX12_keep_6 (by decide) (fun _ => ?_) (fun c9 => absurd (by decide) c9)
      refine lv_aload_n hx hb dX12_keep_27 rfl (lv_at hl 1 rfl) ?_
      refine lv_iconst (v := 1) hx hb dX12_keep_28 (by decide) ?_
      refine pf_X12_383 hC rfl hK hP hD hS 0 (ws' := [(h0, .inr (12, [.ref nw, .ref nk, .int 1, .ref nt, .int mtaped, .ref nr, .int mrowMany, .int mroundOf, .int mroundFrom, .int mouts, .ref nm, .int mfromHour, .int mtoHour, .ref ns, .int mfrom, .int mto, .int msort, .int misFault, .int mdeep, .int mcoded, .int mlines, .ref nl, .ref nc, .ref nF, .ref np, .ref ntr, .ref nb, .int mbestCost, .ref nso, .ref nsi, .ref nit, .ref nsh, .ref nsf, .ref nss, .ref nrc, .int mtraced, .int mdealer, .int mnumber, .int mwhose, .int msize, .int misParted])), (nw, .inl (G.2.1, 1662, .inl fnw)), (nk, .inl (G.2.1, 1662, .inl vK))]) rfl (Nat.le_of_ble_eq_true rfl) rfl (by decide +kernel) (by decide +kernel) dX12_keep_29 (fun H locs hP hD hS => ?_)
      refine lv_iconst (v := 1) hx hb dX12_keep_32 (by decide) ?_
      exact RI (v := 1) hC hP hD hS [0, 1, 2] vK rfl rfl (by decide) (⟨rfl, ⟨AG.NI hag hN, AG.VI hag hV, AG.SC hag, hag⟩⟩) rfl dX12_keep_33
    | succ nP ihP =>
      intro kP vK H locs ls hkP hag hP hD hS hl
      refine lv_iload_n hx hb dX12_keep_2 rfl (lv_at hl 0 rfl) ?_
      refine lv_sipush (v := 1662) hx hb dX12_keep_3 (by decide) ?_
      refine lv_icmp_ge (tgt := 27) hx hb dX12_keep_6 (by decide) (fun c9 => absurd c9 (nI_ge (a := kP) (b := 1662) (by omega) (by omega))) (fun _ => ?_)
      refine lv_aload_n hx hb dX12_keep_9 rfl (lv_at hl 1 rfl) ?_
      refine gf_X12_13 hC rfl hK hP 0 rfl rfl dX12_keep_10 ?_
      refine lv_iload_n hx hb dX12_keep_13 rfl (lv_at hl 0 rfl) ?_
      refine lv_aload_n hx hb dX12_keep_14 rfl (lv_at hl 1 rfl) ?_
      refine gf_X12_9 hC rfl hK hP 0 rfl rfl dX12_keep_15 ?_
      refine lv_iload_n hx hb dX12_keep_18 rfl (lv_at hl 0 rfl) ?_
      refine ald hC hK hP 1 rfl (vp_in_nI (by omega) (by omega)) (k := kP) (nI_clamp (by omega)) (v := fnw kP) rfl dX12_keep_19 ?_
      refine lv_topi (fun x6827 ex6827 => ?_)
      refine ast hC hK hP hD hS 2 (ws' := [(h0, .inr (12, [.ref nw, .ref nk, .int mhasKept, .ref nt, .int mtaped, .ref nr, .int mrowMany, .int mroundOf, .int mroundFrom, .int mouts, .ref nm, .int mfromHour, .int mtoHour, .ref ns, .int mfrom, .int mto, .int msort, .int misFault, .int mdeep, .int mcoded, .int mlines, .ref nl, .ref nc, .ref nF, .ref np, .ref ntr, .ref nb, .int mbestCost, .ref nso, .ref nsi, .ref nit, .ref nsh, .ref nsf, .ref nss, .ref nrc, .int mtraced, .int mdealer, .int mnumber, .int mwhose, .int msize, .int misParted])), (nw, .inl (G.2.1, 1662, .inl fnw)), (nk, .inl (G.2.1, 1662, .inl (upd vK kP x6827)))]) rfl (vp_in_nI (by omega) (by omega)) (k := kP) (nI_clamp (by omega)) (rfl) dX12_keep_20 (fun H locs hP hD hS => ?_)
      refine lv_iinc (v := nI (kP + 1)) (lv' := [(1, .int (nI (kP + 1))), (0, .ref h0)]) hx hb dX12_keep_21 hl (k := 0) rfl (nI_1 _) (by decide) rfl (fun ls hl => ?_)
      refine lv_goto (tgt := 2) hx hb dX12_keep_24 (by decide) ?_
      exact ihP (kP + 1) (upd vK kP x6827) _ _ _ (by omega) (by first | assumption | exact Or.inl rfl | exact Or.inr rfl | exact AG.zero | exact AG.next (by assumption) (by assumption)) hP hD hS (lv_sub hl [0, 1] rfl)
  exact keyP 1662 0 fnk _ _ _ (by omega) (by first | assumption | exact Or.inl rfl | exact Or.inr rfl | exact AG.zero | exact AG.next (by assumption) (by assumption)) hP hD hS (lv_sub hl [0, 1] rfl)
set_option maxHeartbeats 4000000 in
set_option maxRecDepth 100000 in
theorem w_again0 (l : Launch) (G : GG) (h0 : Nat) (nw : Nat) (nk : Nat) (nt : Nat) (mtaped : Int32) (nr : Nat) (mrowMany : Int32) (mroundOf : Int32) (mroundFrom : Int32) (mouts : Int32) (nm : Nat) (mfromHour : Int32) (mtoHour : Int32) (ns : Nat) (mfrom : Int32) (mto : Int32) (msort : Int32) (misFault : Int32) (mdeep : Int32) (mcoded : Int32) (mlines : Int32) (nl : Nat) (nc : Nat) (nF : Nat) (np : Nat) (ntr : Nat) (nb : Nat) (mbestCost : Int32) (nso : Nat) (nsi : Nat) (nit : Nat) (nsh : Nat) (nsf : Nat) (nss : Nat) (nrc : Nat) (mtraced : Int32) (mdealer : Int32) (mnumber : Int32) (mwhose : Int32) (msize : Int32) (misParted : Int32) : MP l G yX12_again cX12_again 2 (some .int) 1 [.ref h0] [(h0, .inr (12, [.ref nw, .ref nk, .int 0, .ref nt, .int mtaped, .ref nr, .int mrowMany, .int mroundOf, .int mroundFrom, .int mouts, .ref nm, .int mfromHour, .int mtoHour, .ref ns, .int mfrom, .int mto, .int msort, .int misFault, .int mdeep, .int mcoded, .int mlines, .ref nl, .ref nc, .ref nF, .ref np, .ref ntr, .ref nb, .int mbestCost, .ref nso, .ref nsi, .ref nit, .ref nsh, .ref nsf, .ref nss, .ref nrc, .int mtraced, .int mdealer, .int mnumber, .int mwhose, .int msize, .int misParted]))] (fun r : Int32 => r = (-3)) := by
  refine MP.start (by decide +kernel) (Nat.le_of_ble_eq_true rfl) ?_
  intro p e s m below meth c ls hC hK hP hD hl
  have hl : lv_has ls 2 [(0, .ref h0)] := hl
  obtain ⟨hx, hb, hr, hml, hB, hown, hlocks, hnm⟩ := id hC
  refine lv_aload_n hx hb dX12_again_0 rfl (lv_at hl 0 rfl) ?_
  refine gf_X12_383 hC rfl hK hP 0 rfl rfl dX12_again_1 ?_
  refine lv_if_ne (tgt := 10) hx hb dX12_again_4 (by decide) (fun c9 => absurd (by decide) c9) (fun _ => ?_)
  refine lv_bipush (v := (-3)) hx hb dX12_again_7 (by decide) ?_
  exact RP (v := (-3)) hC (rfl) rfl dX12_again_9
set_option maxHeartbeats 4000000 in
set_option maxRecDepth 100000 in
theorem w_again1 (l : Launch) (G : GG) (h0 : Nat) (nw : Nat) (nk : Nat) (nt : Nat) (mtaped : Int32) (nr : Nat) (mrowMany : Int32) (mroundOf : Int32) (mroundFrom : Int32) (mouts : Int32) (nm : Nat) (mfromHour : Int32) (mtoHour : Int32) (ns : Nat) (mfrom : Int32) (mto : Int32) (msort : Int32) (misFault : Int32) (mdeep : Int32) (mcoded : Int32) (mlines : Int32) (nl : Nat) (nc : Nat) (nF : Nat) (np : Nat) (ntr : Nat) (nb : Nat) (mbestCost : Int32) (nso : Nat) (nsi : Nat) (nit : Nat) (nsh : Nat) (nsf : Nat) (nss : Nat) (nrc : Nat) (mtraced : Int32) (mdealer : Int32) (mnumber : Int32) (mwhose : Int32) (msize : Int32) (misParted : Int32) (fnw : Nat → Int32) (fnk : Nat → Int32) (hN : NI fnw) (hV : VI fnw) (hNk : NI fnk) (hVk : VI fnk) : MI l G yX12_again cX12_again 2 (some .int) 1 0 0 [.ref h0] [(h0, .inr (12, [.ref nw, .ref nk, .int 1, .ref nt, .int mtaped, .ref nr, .int mrowMany, .int mroundOf, .int mroundFrom, .int mouts, .ref nm, .int mfromHour, .int mtoHour, .ref ns, .int mfrom, .int mto, .int msort, .int misFault, .int mdeep, .int mcoded, .int mlines, .ref nl, .ref nc, .ref nF, .ref np, .ref ntr, .ref nb, .int mbestCost, .ref nso, .ref nsi, .ref nit, .ref nsh, .ref nsf, .ref nss, .ref nrc, .int mtraced, .int mdealer, .int mnumber, .int mwhose, .int msize, .int misParted])), (nw, .inl (G.2.1, 1662, .inl fnw)), (nk, .inl (G.2.1, 1662, .inl fnk))] (fun (r : Int32) (u : (Nat → Int32)) => (r = 1) ∧ (NI u ∧ VI u ∧ SCX u (fnk 0) (fnk 1) (fnk 2) (fnk 3) (fnk 4) (fnk 5) (fnk 6) (fnk 8) (fnk 9) (fnk 10) (fnk 11) ∧ AG 1662 fnk u)) (fun u : (Nat → Int32) => [(h0, .inr (12, [.ref nw, .ref nk, .int 1, .ref nt, .int mtaped, .ref nr, .int mrowMany, .int mroundOf, .int mroundFrom, .int mouts, .ref nm, .int mfromHour, .int mtoHour, .ref ns, .int mfrom, .int mto, .int msort, .int misFault, .int mdeep, .int mcoded, .int mlines, .ref nl, .ref nc, .ref nF, .ref np, .ref ntr, .ref nb, .int mbestCost, .ref nso, .ref nsi, .ref nit, .ref nsh, .ref nsf, .ref nss, .ref nrc, .int mtraced, .int mdealer, .int mnumber, .int mwhose, .int msize, .int misParted])), (nw, .inl (G.2.1, 1662, .inl u)), (nk, .inl (G.2.1, 1662, .inl fnk))]) := by
  refine MI.start (by decide +kernel) (Nat.le_of_ble_eq_true rfl) ?_
  intro p e s m below meth c A ls hC hK hP hD hS hA hl
  have hl : lv_has ls 2 [(0, .ref h0)] := hl
  obtain ⟨hx, hb, hr, hml, hB, hown, hlocks, hnm⟩ := id hC
  refine lv_aload_n hx hb dX12_again_0 rfl (lv_at hl 0 rfl) ?_
  refine gf_X12_383 hC rfl hK hP 0 rfl rfl dX12_again_1 ?_
  refine lv_if_ne (tgt := 10) hx hb dX12_again_4 (by decide) (fun _ => ?_) (fun c9 => absurd c9 (by decide))
  refine lv_iconst (v := 0) hx hb dX12_again_10 (by decide) ?_
  refine lv_istore_n (lv' := [(1, .int 0), (0, .ref h0)]) hx hb dX12_again_11 rfl hl (by decide) rfl (fun ls hl => ?_)
  have keyP : ∀ (nP kP : Nat) (vK : Nat → Int32) (H : Heap) (locs : List Loc) (ls : Array Slot), kP + nP = 1662 → (AG kP fnk vK) → va_P G.1 vwCl [(h0, .inr (12, [.ref nw, .ref nk, .int 1, .ref nt, .int mtaped, .ref nr, .int mrowMany, .int mroundOf, .int mroundFrom, .int mouts, .ref nm, .int mfromHour, .int mtoHour, .ref ns, .int mfrom, .int mto, .int msort, .int misFault, .int mdeep, .int mcoded, .int mlines, .ref nl, .ref nc, .ref nF, .ref np, .ref ntr, .ref nb, .int mbestCost, .ref nso, .ref nsi, .ref nit, .ref nsh, .ref nsf, .ref nss, .ref nrc, .int mtraced, .int mdealer, .int mnumber, .int mwhose, .int msize, .int misParted])), (nw, .inl (G.2.1, 1662, .inl vK)), (nk, .inl (G.2.1, 1662, .inl fnk))] H → va_D A [(h0, .inr (12, [.ref nw, .ref nk, .int 1, .ref nt, .int mtaped, .ref nr, .int mrowMany, .int mroundOf, .int mroundFrom, .int mouts, .ref nm, .int mfromHour, .int mtoHour, .ref ns, .int mfrom, .int mto, .int msort, .int misFault, .int mdeep, .int mcoded, .int mlines, .ref nl, .ref nc, .ref nF, .ref np, .ref ntr, .ref nb, .int mbestCost, .ref nso, .ref nsi, .ref nit, .ref nsh, .ref nsf, .ref nss, .ref nrc, .int mtraced, .int mdealer, .int mnumber, .int mwhose, .int msize, .int misParted])), (nw, .inl (G.2.1, 1662, .inl vK)), (nk, .inl (G.2.1, 1662, .inl fnk))] → va_S A s.heap H locs → lv_has ls 2 [(1, .int (nI kP)), (0, .ref h0)] → W p l e (RM 1 0 0) s m ([.ref h0] : List Value).toArray below meth c H locs 0 0 (MQ below (QI G (fun (r : Int32) (u : (Nat → Int32)) => (r = 1) ∧ (NI u ∧ VI u ∧ SCX u (fnk 0) (fnk 1) (fnk 2) (fnk 3) (fnk 4) (fnk 5) (fnk 6) (fnk 8) (fnk 9) (fnk 10) (fnk 11) ∧ AG 1662 fnk u)) (fun u : (Nat → Int32) => [(h0, .inr (12, [.ref nw, .ref nk, .int 1, .ref nt, .int mtaped, .ref nr, .int mrowMany, .int mroundOf, .int mroundFrom, .int mouts, .ref nm, .int mfromHour, .int mtoHour, .ref ns, .int mfrom, .int mto, .int msort, .int misFault, .int mdeep, .int mcoded, .int mlines, .ref nl, .ref nc, .ref nF, .ref np, .ref ntr, .ref nb, .int mbestCost, .ref nso, .ref nsi, .ref nit, .ref nsh, .ref nsf, .ref nss, .ref nrc, .int mtraced, .int mdealer, .int mnumber, .int mwhose, .int msize, .int misParted])), (nw, .inl (G.2.1, 1662, .inl u)), (nk, .inl (G.2.1, 1662, .inl fnk))]) A) ([.ref h0] : List Value).toArray s 0 0 A) (F0 m 12 ls []) := by
    intro nP
    induction nP with
    | zero =>
      intro kP vK H locs ls hkP hag hP hD hS hl
      obtain rfl : 1662 = kP := by omega
      have hl : lv_has ls 2 [(1, .int 1662), (0, .ref h0)] := hl
      refine lv_iload_n hx hb dX12_again_12 rfl (lv_at hl 0 rfl) ?_
      refine lv_sipush (v := 1662) hx hb dX12_again_13 (by decide) ?_
      refine lv_icmp_ge (tgt := 37) hx hb dX12_again_16 (by decide) (fun _ => ?_) (fun c9 => absurd (by decide) c9)
      refine lv_iconst (v := 1) hx hb dX12_again_37 (by decide) ?_
      exact RI (v := 1) hC hP hD hS [0, 1, 2] vK rfl rfl (by decide) (⟨rfl, ⟨AG.NI hag hNk, AG.VI hag hVk, AG.SC hag, hag⟩⟩) rfl dX12_again_38
    | succ nP ihP =>
      intro kP vK H locs ls hkP hag hP hD hS hl
      refine lv_iload_n hx hb dX12_again_12 rfl (lv_at hl 0 rfl) ?_
      refine lv_sipush (v := 1662) hx hb dX12_again_13 (by decide) ?_
      refine lv_icmp_ge (tgt := 37) hx hb dX12_again_16 (by decide) (fun c9 => absurd c9 (nI_ge (a := kP) (b := 1662) (by omega) (by omega))) (fun _ => ?_)
      refine lv_aload_n hx hb dX12_again_19 rfl (lv_at hl 1 rfl) ?_
      refine gf_X12_9 hC rfl hK hP 0 rfl rfl dX12_again_20 ?_
      refine lv_iload_n hx hb dX12_again_23 rfl (lv_at hl 0 rfl) ?_
      refine lv_aload_n hx hb dX12_again_24 rfl (lv_at hl 1 rfl) ?_
      refine gf_X12_13 hC rfl hK hP 0 rfl rfl dX12_again_25 ?_
      refine lv_iload_n hx hb dX12_again_28 rfl (lv_at hl 0 rfl) ?_
      refine ald hC hK hP 2 rfl (vp_in_nI (by omega) (by omega)) (k := kP) (nI_clamp (by omega)) (v := fnk kP) rfl dX12_again_29 ?_
      refine lv_topi (fun x6828 ex6828 => ?_)
      refine ast hC hK hP hD hS 1 (ws' := [(h0, .inr (12, [.ref nw, .ref nk, .int 1, .ref nt, .int mtaped, .ref nr, .int mrowMany, .int mroundOf, .int mroundFrom, .int mouts, .ref nm, .int mfromHour, .int mtoHour, .ref ns, .int mfrom, .int mto, .int msort, .int misFault, .int mdeep, .int mcoded, .int mlines, .ref nl, .ref nc, .ref nF, .ref np, .ref ntr, .ref nb, .int mbestCost, .ref nso, .ref nsi, .ref nit, .ref nsh, .ref nsf, .ref nss, .ref nrc, .int mtraced, .int mdealer, .int mnumber, .int mwhose, .int msize, .int misParted])), (nw, .inl (G.2.1, 1662, .inl (upd vK kP x6828))), (nk, .inl (G.2.1, 1662, .inl fnk))]) rfl (vp_in_nI (by omega) (by omega)) (k := kP) (nI_clamp (by omega)) (rfl) dX12_again_30 (fun H locs hP hD hS => ?_)
      refine lv_iinc (v := nI (kP + 1)) (lv' := [(1, .int (nI (kP + 1))), (0, .ref h0)]) hx hb dX12_again_31 hl (k := 0) rfl (nI_1 _) (by decide) rfl (fun ls hl => ?_)
      refine lv_goto (tgt := 12) hx hb dX12_again_34 (by decide) ?_
      exact ihP (kP + 1) (upd vK kP x6828) _ _ _ (by omega) (by first | assumption | exact Or.inl rfl | exact Or.inr rfl | exact AG.zero | exact AG.next (by assumption) (by assumption)) hP hD hS (lv_sub hl [0, 1] rfl)
  exact keyP 1662 0 fnw _ _ _ (by omega) (by first | assumption | exact Or.inl rfl | exact Or.inr rfl | exact AG.zero | exact AG.next (by assumption) (by assumption)) hP hD hS (lv_sub hl [0, 1] rfl)
