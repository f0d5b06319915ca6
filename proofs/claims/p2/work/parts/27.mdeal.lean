section WR
variable {p : Program} {l : Launch} {e : Env} {R : Room} {s : State} {m : MethodId} {args : Array Value} {below : List Frame} {meth : Method} {c : Code} {H : Heap} {locs : List Loc} {cells slots : Nat} {Q : State → Prop}
variable {pc : Nat} {ls : Array Slot} {rest : List Value} {G : GG} {ws : va_W} {A : Nat → Prop} {y0 : MethodName} {b0 : ByteArray} {mL0 : Nat} {rt0 : Option FieldType} {a : Nat} {H0 : Heap}
end WR
/-- what a kind tells of its shelf -/
def KO1 (x : Int32) (y : Int32) (k : Nat) (B : Nat) : Prop := x = nI k ∧ ∃ j, j < B ∧ y = nI j
theorem KO1.mk {x x2 y y2 : Int32} {k B kk : Nat} (hB : kk ≤ B) (hk : kk < 2 ^ 31) (ex : x2 = x) (ey : y2 = y) (c : x2 = nI k) (h : Hs y2 kk) : KO1 x y k B := by
  obtain ⟨j, hj, e⟩ := Hs_nat hk h
  exact ⟨ex.symm.trans c, j, by omega, ey.symm.trans e⟩
/-- the first n alike -/
def AG (n : Nat) (f g : Nat → Int32) : Prop := ∀ i, i < n → g i = f i
theorem AG.zero {f g : Nat → Int32} : AG 0 f g := fun i h => absurd h (Nat.not_lt_zero i)
theorem AG.next {n : Nat} {f g : Nat → Int32} {x : Int32} (h : AG n f g) (hx : x = f n) : AG (n + 1) f (upd g n x) := by
  intro i hi
  unfold upd
  by_cases c : i = n
  · rw [if_pos c, hx, c]
  · rw [if_neg c]; exact h i (by omega)
theorem AG.SC {f g : Nat → Int32} (h : AG 1662 f g) : SCX g (f 0) (f 1) (f 2) (f 3) (f 4) (f 5) (f 8) (f 9) (f 10) (f 11) := SCX.rf.ag fun i h1 _ _ => h i (by omega)
theorem AG.NI {f g : Nat → Int32} (h : AG 1662 f g) (hN : NI f) : NI g := by
  intro i
  by_cases c : i < 1662
  · rw [h i c]; exact hN i
  · rw [bnd_end (by omega)]
    exact ⟨ti_lo _, ti_hi _⟩
theorem AG.VI {f g : Nat → Int32} (h : AG 1662 f g) (hV : VI f) : VI g := by
  intro v hv
  exact VOK.ext (fun j hj => (h _ (by omega)).symm) (hV v hv)
section WR
variable {p : Program} {l : Launch} {e : Env} {R : Room} {s : State} {m : MethodId} {args : Array Value} {below : List Frame} {meth : Method} {c : Code} {H : Heap} {locs : List Loc} {cells slots : Nat} {Q : State → Prop}
variable {pc : Nat} {ls : Array Slot} {rest : List Value} {G : GG} {ws : va_W} {A : Nat → Prop} {y0 : MethodName} {b0 : ByteArray} {mL0 : Nat} {rt0 : Option FieldType} {a : Nat} {H0 : Heap}
theorem dX12_kindOn_0 : decode cX12_kindOn 0 = .ok (.aload_n 0, 1) := by decide +kernel
theorem dX12_kindOn_1 : decode cX12_kindOn 1 = .ok (.getfield 75, 3) := by decide +kernel
theorem dX12_kindOn_4 : decode cX12_kindOn 4 = .ok (.iload_n 1, 1) := by decide +kernel
theorem dX12_kindOn_5 : decode cX12_kindOn 5 = .ok (.iaload, 1) := by decide +kernel
theorem dX12_kindOn_6 : decode cX12_kindOn 6 = .ok (.istore_n 2, 1) := by decide +kernel
theorem dX12_kindOn_7 : decode cX12_kindOn 7 = .ok (.aload_n 0, 1) := by decide +kernel
theorem dX12_kindOn_8 : decode cX12_kindOn 8 = .ok (.getfield 72, 3) := by decide +kernel
theorem dX12_kindOn_11 : decode cX12_kindOn 11 = .ok (.iload_n 1, 1) := by decide +kernel
theorem dX12_kindOn_12 : decode cX12_kindOn 12 = .ok (.iaload, 1) := by decide +kernel
theorem dX12_kindOn_13 : decode cX12_kindOn 13 = .ok (.tableswitch 145 1 3 #[27, 98, 128], 27) := by decide +kernel
theorem dX12_kindOn_40 : decode cX12_kindOn 40 = .ok (.aload_n 0, 1) := by decide +kernel
theorem dX12_kindOn_41 : decode cX12_kindOn 41 = .ok (.iload_n 2, 1) := by decide +kernel
theorem dX12_kindOn_42 : decode cX12_kindOn 42 = .ok (.iconst 5, 1) := by decide +kernel
theorem dX12_kindOn_43 : decode cX12_kindOn 43 = .ok (.invokevirtual 120, 3) := by decide +kernel
theorem dX12_kindOn_46 : decode cX12_kindOn 46 = .ok (.ifCond .eq 27, 3) := by decide +kernel
theorem dX12_kindOn_49 : decode cX12_kindOn 49 = .ok (.aload_n 0, 1) := by decide +kernel
theorem dX12_kindOn_50 : decode cX12_kindOn 50 = .ok (.iload_n 2, 1) := by decide +kernel
theorem dX12_kindOn_51 : decode cX12_kindOn 51 = .ok (.iconst 1, 1) := by decide +kernel
theorem dX12_kindOn_52 : decode cX12_kindOn 52 = .ok (.invokevirtual 88, 3) := by decide +kernel
theorem dX12_kindOn_55 : decode cX12_kindOn 55 = .ok (.iconst 1, 1) := by decide +kernel
theorem dX12_kindOn_56 : decode cX12_kindOn 56 = .ok (.aload_n 0, 1) := by decide +kernel
theorem dX12_kindOn_57 : decode cX12_kindOn 57 = .ok (.iload_n 2, 1) := by decide +kernel
theorem dX12_kindOn_58 : decode cX12_kindOn 58 = .ok (.iconst 0, 1) := by decide +kernel
theorem dX12_kindOn_59 : decode cX12_kindOn 59 = .ok (.invokevirtual 88, 3) := by decide +kernel
theorem dX12_kindOn_62 : decode cX12_kindOn 62 = .ok (.ishl, 1) := by decide +kernel
theorem dX12_kindOn_63 : decode cX12_kindOn 63 = .ok (.iconst (-1), 1) := by decide +kernel
theorem dX12_kindOn_64 : decode cX12_kindOn 64 = .ok (.ixor, 1) := by decide +kernel
theorem dX12_kindOn_65 : decode cX12_kindOn 65 = .ok (.iand, 1) := by decide +kernel
theorem dX12_kindOn_66 : decode cX12_kindOn 66 = .ok (.ifCond .eq 7, 3) := by decide +kernel
theorem dX12_kindOn_73 : decode cX12_kindOn 73 = .ok (.iconst 0, 1) := by decide +kernel
theorem dX12_kindOn_74 : decode cX12_kindOn 74 = .ok (.istore_n 3, 1) := by decide +kernel
theorem dX12_kindOn_75 : decode cX12_kindOn 75 = .ok (.aload_n 0, 1) := by decide +kernel
theorem dX12_kindOn_76 : decode cX12_kindOn 76 = .ok (.iload_n 2, 1) := by decide +kernel
theorem dX12_kindOn_77 : decode cX12_kindOn 77 = .ok (.iconst 5, 1) := by decide +kernel
theorem dX12_kindOn_78 : decode cX12_kindOn 78 = .ok (.invokevirtual 120, 3) := by decide +kernel
theorem dX12_kindOn_81 : decode cX12_kindOn 81 = .ok (.ifCond .ne 7, 3) := by decide +kernel
theorem dX12_kindOn_88 : decode cX12_kindOn 88 = .ok (.iload_n 3, 1) := by decide +kernel
theorem dX12_kindOn_89 : decode cX12_kindOn 89 = .ok (.ifCond .ne 7, 3) := by decide +kernel
theorem dX12_kindOn_92 : decode cX12_kindOn 92 = .ok (.iconst 2, 1) := by decide +kernel
theorem dX12_kindOn_93 : decode cX12_kindOn 93 = .ok (.goto 17, 3) := by decide +kernel
theorem dX12_kindOn_110 : decode cX12_kindOn 110 = .ok (.ireturn, 1) := by decide +kernel
theorem dX12_kindOn_69 : decode cX12_kindOn 69 = .ok (.iconst 1, 1) := by decide +kernel
theorem dX12_kindOn_70 : decode cX12_kindOn 70 = .ok (.goto 4, 3) := by decide +kernel
theorem dX12_kindOn_96 : decode cX12_kindOn 96 = .ok (.aload_n 0, 1) := by decide +kernel
theorem dX12_kindOn_97 : decode cX12_kindOn 97 = .ok (.iload_n 2, 1) := by decide +kernel
theorem dX12_kindOn_98 : decode cX12_kindOn 98 = .ok (.iconst 3, 1) := by decide +kernel
theorem dX12_kindOn_99 : decode cX12_kindOn 99 = .ok (.invokevirtual 88, 3) := by decide +kernel
theorem dX12_kindOn_102 : decode cX12_kindOn 102 = .ok (.ifCond .le 7, 3) := by decide +kernel
theorem dX12_kindOn_109 : decode cX12_kindOn 109 = .ok (.iconst 1, 1) := by decide +kernel
theorem dX12_kindOn_105 : decode cX12_kindOn 105 = .ok (.iconst 3, 1) := by decide +kernel
theorem dX12_kindOn_106 : decode cX12_kindOn 106 = .ok (.goto 4, 3) := by decide +kernel
theorem dX12_kindOn_84 : decode cX12_kindOn 84 = .ok (.iconst (-1), 1) := by decide +kernel
theorem dX12_kindOn_85 : decode cX12_kindOn 85 = .ok (.goto 25, 3) := by decide +kernel
theorem dX12_kindOn_111 : decode cX12_kindOn 111 = .ok (.aload_n 0, 1) := by decide +kernel
theorem dX12_kindOn_112 : decode cX12_kindOn 112 = .ok (.iload_n 2, 1) := by decide +kernel
theorem dX12_kindOn_113 : decode cX12_kindOn 113 = .ok (.bipush 8, 2) := by decide +kernel
theorem dX12_kindOn_115 : decode cX12_kindOn 115 = .ok (.invokevirtual 120, 3) := by decide +kernel
theorem dX12_kindOn_118 : decode cX12_kindOn 118 = .ok (.ifCond .ne 7, 3) := by decide +kernel
theorem dX12_kindOn_125 : decode cX12_kindOn 125 = .ok (.aload_n 0, 1) := by decide +kernel
theorem dX12_kindOn_126 : decode cX12_kindOn 126 = .ok (.iload_n 2, 1) := by decide +kernel
theorem dX12_kindOn_127 : decode cX12_kindOn 127 = .ok (.bipush 6, 2) := by decide +kernel
theorem dX12_kindOn_129 : decode cX12_kindOn 129 = .ok (.invokevirtual 114, 3) := by decide +kernel
theorem dX12_kindOn_132 : decode cX12_kindOn 132 = .ok (.ifCond .ge 7, 3) := by decide +kernel
theorem dX12_kindOn_139 : decode cX12_kindOn 139 = .ok (.iconst 4, 1) := by decide +kernel
theorem dX12_kindOn_140 : decode cX12_kindOn 140 = .ok (.ireturn, 1) := by decide +kernel
theorem dX12_kindOn_135 : decode cX12_kindOn 135 = .ok (.iconst 5, 1) := by decide +kernel
theorem dX12_kindOn_136 : decode cX12_kindOn 136 = .ok (.goto 4, 3) := by decide +kernel
theorem dX12_kindOn_121 : decode cX12_kindOn 121 = .ok (.iconst (-1), 1) := by decide +kernel
theorem dX12_kindOn_122 : decode cX12_kindOn 122 = .ok (.goto 18, 3) := by decide +kernel
theorem dX12_kindOn_141 : decode cX12_kindOn 141 = .ok (.aload_n 0, 1) := by decide +kernel
theorem dX12_kindOn_142 : decode cX12_kindOn 142 = .ok (.iload_n 2, 1) := by decide +kernel
theorem dX12_kindOn_143 : decode cX12_kindOn 143 = .ok (.bipush 9, 2) := by decide +kernel
theorem dX12_kindOn_145 : decode cX12_kindOn 145 = .ok (.invokevirtual 120, 3) := by decide +kernel
theorem dX12_kindOn_148 : decode cX12_kindOn 148 = .ok (.ifCond .eq 8, 3) := by decide +kernel
theorem dX12_kindOn_151 : decode cX12_kindOn 151 = .ok (.bipush 6, 2) := by decide +kernel
theorem dX12_kindOn_153 : decode cX12_kindOn 153 = .ok (.goto 4, 3) := by decide +kernel
theorem dX12_kindOn_157 : decode cX12_kindOn 157 = .ok (.ireturn, 1) := by decide +kernel
theorem dX12_kindOn_156 : decode cX12_kindOn 156 = .ok (.iconst (-1), 1) := by decide +kernel
theorem sw_1_3 {x : Int32} : ¬ x = 1 → ¬ x = 2 → ¬ x = 3 →  (x.toInt < 1 ∨ 3 < x.toInt) := by
  intros
  simp only [← Int32.toInt_inj] at *
  have hk : ∀ k : Int, x.toInt = k → x.toInt = k := fun _ h => h
  have k1 : (1 : Int32).toInt = 1 := by decide
  have k2 : (2 : Int32).toInt = 2 := by decide
  have k3 : (3 : Int32).toInt = 3 := by decide
  omega
theorem dX12_kindOn_158 : decode cX12_kindOn 158 = .ok (.iconst (-1), 1) := by decide +kernel
theorem dX12_kindOn_159 : decode cX12_kindOn 159 = .ok (.ireturn, 1) := by decide +kernel
theorem dX12_above_0 : decode cX12_above 0 = .ok (.iload_n 0, 1) := by decide +kernel
theorem dX12_above_1 : decode cX12_above 1 = .ok (.iconst 3, 1) := by decide +kernel
theorem dX12_above_2 : decode cX12_above 2 = .ok (.if_icmp .ne 7, 3) := by decide +kernel
theorem dX12_above_9 : decode cX12_above 9 = .ok (.iload_n 0, 1) := by decide +kernel
theorem dX12_above_10 : decode cX12_above 10 = .ok (.iconst 5, 1) := by decide +kernel
theorem dX12_above_11 : decode cX12_above 11 = .ok (.if_icmp .ne 7, 3) := by decide +kernel
theorem dX12_above_18 : decode cX12_above 18 = .ok (.iload_n 0, 1) := by decide +kernel
theorem dX12_above_19 : decode cX12_above 19 = .ok (.ifCond .ne 7, 3) := by decide +kernel
theorem dX12_above_22 : decode cX12_above 22 = .ok (.iconst (-1), 1) := by decide +kernel
theorem dX12_above_23 : decode cX12_above 23 = .ok (.goto 4, 3) := by decide +kernel
theorem dX12_above_27 : decode cX12_above 27 = .ok (.ireturn, 1) := by decide +kernel
theorem dX12_above_26 : decode cX12_above 26 = .ok (.iconst 0, 1) := by decide +kernel
theorem dX12_above_5 : decode cX12_above 5 = .ok (.iconst 1, 1) := by decide +kernel
theorem dX12_above_6 : decode cX12_above 6 = .ok (.goto 21, 3) := by decide +kernel
theorem dX12_above_14 : decode cX12_above 14 = .ok (.iconst 4, 1) := by decide +kernel
theorem dX12_above_15 : decode cX12_above 15 = .ok (.goto 12, 3) := by decide +kernel
theorem dX12_hasOwn_0 : decode cX12_hasOwn 0 = .ok (.iload_n 0, 1) := by decide +kernel
theorem dX12_hasOwn_1 : decode cX12_hasOwn 1 = .ok (.tableswitch 94 0 5 #[39, 41, 52, 63, 79, 79], 39) := by decide +kernel
theorem dX12_hasOwn_40 : decode cX12_hasOwn 40 = .ok (.iconst 1, 1) := by decide +kernel
theorem dX12_hasOwn_41 : decode cX12_hasOwn 41 = .ok (.ireturn, 1) := by decide +kernel
theorem dX12_hasOwn_42 : decode cX12_hasOwn 42 = .ok (.iload_n 1, 1) := by decide +kernel
theorem dX12_hasOwn_43 : decode cX12_hasOwn 43 = .ok (.iconst 1, 1) := by decide +kernel
theorem dX12_hasOwn_44 : decode cX12_hasOwn 44 = .ok (.if_icmp .ne 7, 3) := by decide +kernel
theorem dX12_hasOwn_51 : decode cX12_hasOwn 51 = .ok (.iconst 0, 1) := by decide +kernel
theorem dX12_hasOwn_52 : decode cX12_hasOwn 52 = .ok (.ireturn, 1) := by decide +kernel
theorem dX12_hasOwn_47 : decode cX12_hasOwn 47 = .ok (.iconst 1, 1) := by decide +kernel
theorem dX12_hasOwn_48 : decode cX12_hasOwn 48 = .ok (.goto 4, 3) := by decide +kernel
theorem dX12_hasOwn_53 : decode cX12_hasOwn 53 = .ok (.iload_n 1, 1) := by decide +kernel
theorem dX12_hasOwn_54 : decode cX12_hasOwn 54 = .ok (.iconst 2, 1) := by decide +kernel
theorem dX12_hasOwn_55 : decode cX12_hasOwn 55 = .ok (.if_icmp .ne 7, 3) := by decide +kernel
theorem dX12_hasOwn_62 : decode cX12_hasOwn 62 = .ok (.iconst 0, 1) := by decide +kernel
theorem dX12_hasOwn_63 : decode cX12_hasOwn 63 = .ok (.ireturn, 1) := by decide +kernel
theorem dX12_hasOwn_58 : decode cX12_hasOwn 58 = .ok (.iconst 1, 1) := by decide +kernel
theorem dX12_hasOwn_59 : decode cX12_hasOwn 59 = .ok (.goto 4, 3) := by decide +kernel
theorem dX12_hasOwn_64 : decode cX12_hasOwn 64 = .ok (.iload_n 1, 1) := by decide +kernel
theorem dX12_hasOwn_65 : decode cX12_hasOwn 65 = .ok (.iconst 1, 1) := by decide +kernel
theorem dX12_hasOwn_66 : decode cX12_hasOwn 66 = .ok (.if_icmp .eq 8, 3) := by decide +kernel
theorem dX12_hasOwn_69 : decode cX12_hasOwn 69 = .ok (.iload_n 1, 1) := by decide +kernel
theorem dX12_hasOwn_70 : decode cX12_hasOwn 70 = .ok (.iconst 3, 1) := by decide +kernel
theorem dX12_hasOwn_71 : decode cX12_hasOwn 71 = .ok (.if_icmp .ne 7, 3) := by decide +kernel
theorem dX12_hasOwn_78 : decode cX12_hasOwn 78 = .ok (.iconst 0, 1) := by decide +kernel
theorem dX12_hasOwn_79 : decode cX12_hasOwn 79 = .ok (.ireturn, 1) := by decide +kernel
theorem dX12_hasOwn_74 : decode cX12_hasOwn 74 = .ok (.iconst 1, 1) := by decide +kernel
theorem dX12_hasOwn_75 : decode cX12_hasOwn 75 = .ok (.goto 4, 3) := by decide +kernel
theorem dX12_hasOwn_80 : decode cX12_hasOwn 80 = .ok (.iload_n 1, 1) := by decide +kernel
theorem dX12_hasOwn_81 : decode cX12_hasOwn 81 = .ok (.ifCond .eq 8, 3) := by decide +kernel
theorem dX12_hasOwn_89 : decode cX12_hasOwn 89 = .ok (.iconst 1, 1) := by decide +kernel
theorem dX12_hasOwn_90 : decode cX12_hasOwn 90 = .ok (.goto 4, 3) := by decide +kernel
theorem dX12_hasOwn_94 : decode cX12_hasOwn 94 = .ok (.ireturn, 1) := by decide +kernel
theorem dX12_hasOwn_84 : decode cX12_hasOwn 84 = .ok (.iload_n 1, 1) := by decide +kernel
theorem dX12_hasOwn_85 : decode cX12_hasOwn 85 = .ok (.iconst 2, 1) := by decide +kernel
theorem dX12_hasOwn_86 : decode cX12_hasOwn 86 = .ok (.if_icmp .ne 7, 3) := by decide +kernel
theorem dX12_hasOwn_93 : decode cX12_hasOwn 93 = .ok (.iconst 0, 1) := by decide +kernel
theorem dX12_hasOwn_95 : decode cX12_hasOwn 95 = .ok (.iload_n 1, 1) := by decide +kernel
theorem dX12_hasOwn_96 : decode cX12_hasOwn 96 = .ok (.iconst 3, 1) := by decide +kernel
theorem dX12_hasOwn_97 : decode cX12_hasOwn 97 = .ok (.if_icmp .ne 7, 3) := by decide +kernel
theorem dX12_hasOwn_104 : decode cX12_hasOwn 104 = .ok (.iconst 0, 1) := by decide +kernel
theorem dX12_hasOwn_105 : decode cX12_hasOwn 105 = .ok (.ireturn, 1) := by decide +kernel
theorem dX12_hasOwn_100 : decode cX12_hasOwn 100 = .ok (.iconst 1, 1) := by decide +kernel
theorem dX12_hasOwn_101 : decode cX12_hasOwn 101 = .ok (.goto 4, 3) := by decide +kernel
theorem dX12_taken_0 : decode cX12_taken 0 = .ok (.iload_n 1, 1) := by decide +kernel
theorem dX12_taken_1 : decode cX12_taken 1 = .ok (.invokestatic 336, 3) := by decide +kernel
theorem dX12_taken_4 : decode cX12_taken 4 = .ok (.ifCond .eq 24, 3) := by decide +kernel
theorem dX12_taken_7 : decode cX12_taken 7 = .ok (.iload_n 2, 1) := by decide +kernel
theorem dX12_taken_8 : decode cX12_taken 8 = .ok (.iconst 0, 1) := by decide +kernel
theorem dX12_taken_9 : decode cX12_taken 9 = .ok (.bipush 6, 2) := by decide +kernel
theorem dX12_taken_11 : decode cX12_taken 11 = .ok (.invokestatic 84, 3) := by decide +kernel
theorem dX12_taken_14 : decode cX12_taken 14 = .ok (.ifCond .ne 16, 3) := by decide +kernel
theorem dX12_taken_30 : decode cX12_taken 30 = .ok (.aload_n 0, 1) := by decide +kernel
theorem dX12_taken_31 : decode cX12_taken 31 = .ok (.getfield 72, 3) := by decide +kernel
theorem dX12_taken_34 : decode cX12_taken 34 = .ok (.iload_n 1, 1) := by decide +kernel
theorem dX12_taken_35 : decode cX12_taken 35 = .ok (.iaload, 1) := by decide +kernel
theorem dX12_taken_36 : decode cX12_taken 36 = .ok (.iconst 4, 1) := by decide +kernel
theorem dX12_taken_37 : decode cX12_taken 37 = .ok (.if_icmp .ne 28, 3) := by decide +kernel
theorem dX12_taken_65 : decode cX12_taken 65 = .ok (.aload_n 0, 1) := by decide +kernel
theorem dX12_taken_66 : decode cX12_taken 66 = .ok (.iload_n 1, 1) := by decide +kernel
theorem dX12_taken_67 : decode cX12_taken 67 = .ok (.invokevirtual 345, 3) := by decide +kernel
theorem m_1309 : Cond.code yX12_kindOn cX12_kindOn 4 (some .int) ∈ BW := List.mem_of_getElem? (i := 1309) (by decide +kernel)
theorem m_1306 : Cond.methodLink RX12 345 yX12_kindOn ∈ BW := List.mem_of_getElem? (i := 1306) (by decide +kernel)
theorem m_1307 : Cond.instanceMethod yX12_kindOn ∈ BW := List.mem_of_getElem? (i := 1307) (by decide +kernel)
theorem m_1308 : Cond.selects RX12 yX12_kindOn yX12_kindOn ∈ BW := List.mem_of_getElem? (i := 1308) (by decide +kernel)
theorem si_X12_345 : SV RX12 RX12 345 yX12_kindOn cX12_kindOn 4 (some .int) 1 := ⟨⟨m_1306, m_1307, m_1308, m_5, m_1309⟩, rfl, by decide +kernel, by decide +kernel, by decide +kernel⟩
theorem dX12_taken_70 : decode cX12_taken 70 = .ok (.istore_n 3, 1) := by decide +kernel
theorem dX12_taken_71 : decode cX12_taken 71 = .ok (.iload_n 3, 1) := by decide +kernel
theorem dX12_taken_72 : decode cX12_taken 72 = .ok (.ifCond .ge 6, 3) := by decide +kernel
theorem dX12_taken_75 : decode cX12_taken 75 = .ok (.bipush (-11), 2) := by decide +kernel
theorem dX12_taken_77 : decode cX12_taken 77 = .ok (.ireturn, 1) := by decide +kernel
theorem dX12_taken_78 : decode cX12_taken 78 = .ok (.iload_n 3, 1) := by decide +kernel
theorem dX12_taken_79 : decode cX12_taken 79 = .ok (.ifCond .lt 16, 3) := by decide +kernel
theorem dX12_taken_82 : decode cX12_taken 82 = .ok (.iload_n 3, 1) := by decide +kernel
theorem dX12_taken_83 : decode cX12_taken 83 = .ok (.iload_n 2, 1) := by decide +kernel
theorem dX12_taken_84 : decode cX12_taken 84 = .ok (.if_icmp .eq 11, 3) := by decide +kernel
theorem dX12_taken_95 : decode cX12_taken 95 = .ok (.iload_n 3, 1) := by decide +kernel
theorem dX12_taken_96 : decode cX12_taken 96 = .ok (.iload_n 2, 1) := by decide +kernel
theorem dX12_taken_97 : decode cX12_taken 97 = .ok (.if_icmp .ne 12, 3) := by decide +kernel
theorem dX12_taken_100 : decode cX12_taken 100 = .ok (.aload_n 0, 1) := by decide +kernel
theorem dX12_taken_101 : decode cX12_taken 101 = .ok (.getfield 75, 3) := by decide +kernel
theorem dX12_taken_104 : decode cX12_taken 104 = .ok (.iload_n 1, 1) := by decide +kernel
theorem dX12_taken_105 : decode cX12_taken 105 = .ok (.iaload, 1) := by decide +kernel
theorem dX12_taken_106 : decode cX12_taken 106 = .ok (.goto 5, 3) := by decide +kernel
theorem dX12_taken_111 : decode cX12_taken 111 = .ok (.ireturn, 1) := by decide +kernel
theorem dX12_taken_87 : decode cX12_taken 87 = .ok (.iload_n 3, 1) := by decide +kernel
theorem dX12_taken_88 : decode cX12_taken 88 = .ok (.invokestatic 348, 3) := by decide +kernel
theorem m_1312 : Cond.code yX12_above cX12_above 1 (some .int) ∈ BW := List.mem_of_getElem? (i := 1312) (by decide +kernel)
theorem m_1310 : Cond.methodLink RX12 348 yX12_above ∈ BW := List.mem_of_getElem? (i := 1310) (by decide +kernel)
theorem m_1311 : Cond.static yX12_above ∈ BW := List.mem_of_getElem? (i := 1311) (by decide +kernel)
theorem si_X12_348 : SS RX12 348 yX12_above cX12_above 1 (some .int) 1 := ⟨⟨m_1310, m_1311, m_5, m_1312⟩, ⟨by decide +kernel, by decide +kernel, by decide +kernel⟩⟩
theorem dX12_taken_91 : decode cX12_taken 91 = .ok (.istore_n 3, 1) := by decide +kernel
theorem dX12_taken_92 : decode cX12_taken 92 = .ok (.goto (-14), 3) := by decide +kernel
theorem dX12_taken_109 : decode cX12_taken 109 = .ok (.bipush (-13), 2) := by decide +kernel
theorem dX12_taken_40 : decode cX12_taken 40 = .ok (.iload_n 2, 1) := by decide +kernel
theorem dX12_taken_41 : decode cX12_taken 41 = .ok (.bipush 10, 2) := by decide +kernel
theorem dX12_taken_43 : decode cX12_taken 43 = .ok (.isub, 1) := by decide +kernel
theorem dX12_taken_44 : decode cX12_taken 44 = .ok (.aload_n 0, 1) := by decide +kernel
theorem dX12_taken_45 : decode cX12_taken 45 = .ok (.getfield 75, 3) := by decide +kernel
theorem dX12_taken_48 : decode cX12_taken 48 = .ok (.iload_n 1, 1) := by decide +kernel
theorem dX12_taken_49 : decode cX12_taken 49 = .ok (.iaload, 1) := by decide +kernel
theorem dX12_taken_50 : decode cX12_taken 50 = .ok (.if_icmp .ne 12, 3) := by decide +kernel
theorem dX12_taken_62 : decode cX12_taken 62 = .ok (.bipush (-13), 2) := by decide +kernel
theorem dX12_taken_64 : decode cX12_taken 64 = .ok (.ireturn, 1) := by decide +kernel
theorem dX12_taken_53 : decode cX12_taken 53 = .ok (.aload_n 0, 1) := by decide +kernel
theorem dX12_taken_54 : decode cX12_taken 54 = .ok (.getfield 78, 3) := by decide +kernel
theorem dX12_taken_57 : decode cX12_taken 57 = .ok (.iload_n 1, 1) := by decide +kernel
theorem dX12_taken_58 : decode cX12_taken 58 = .ok (.iaload, 1) := by decide +kernel
theorem dX12_taken_59 : decode cX12_taken 59 = .ok (.goto 5, 3) := by decide +kernel
theorem dX12_taken_17 : decode cX12_taken 17 = .ok (.iload_n 2, 1) := by decide +kernel
theorem dX12_taken_18 : decode cX12_taken 18 = .ok (.bipush 10, 2) := by decide +kernel
theorem dX12_taken_20 : decode cX12_taken 20 = .ok (.bipush 14, 2) := by decide +kernel
theorem dX12_taken_22 : decode cX12_taken 22 = .ok (.invokestatic 84, 3) := by decide +kernel
theorem dX12_taken_25 : decode cX12_taken 25 = .ok (.ifCond .ne 5, 3) := by decide +kernel
theorem dX12_taken_28 : decode cX12_taken 28 = .ok (.iconst (-1), 1) := by decide +kernel
theorem dX12_taken_29 : decode cX12_taken 29 = .ok (.ireturn, 1) := by decide +kernel
theorem dX12_began_0 : decode cX12_began 0 = .ok (.aload_n 0, 1) := by decide +kernel
theorem dX12_began_1 : decode cX12_began 1 = .ok (.getfield 351, 3) := by decide +kernel
theorem m_1346 : Cond.fieldLink RX12 351 "InquiryBenchModel" "traced" "I" ∈ BW := List.mem_of_getElem? (i := 1346) (by decide +kernel)
theorem gf_X12_351 (hC : CX p s m meth c y0 b0 mL0 rt0 args) (hy0 : y0.cls = RX12) (hK : KK G s) (hP : va_P G.1 vwCl ws H) (q0 : Nat) {fs : List Value} {v : Value} (he : ws[q0]? = some (a, .inr (12, fs))) (hv : fs[35]? = some v) (hdg : decode b0 pc = .ok (.getfield 351, 3)) (kk : W p l e R s m args below meth c H locs cells slots Q (F0 m (pc + 3) ls (v :: rest))) : W p l e R s m args below meth c H locs cells slots Q (F0 m pc ls (.ref a :: rest)) := by
  obtain ⟨hx, hb, hr, hml, hB, hown, hlocks, hnm⟩ := hC
  rw [hy0] at hown
  exact va_get (ci := 12) (C := RX12) (T := TX12) (N := 41) hx hb hB in_X12 hown hK.1 hP q0 he rfl 35 (by decide) (hB _ m_1346) (fun _ h => h) hv hdg kk
theorem dX12_began_4 : decode cX12_began 4 = .ok (.bipush 30, 2) := by decide +kernel
theorem dX12_began_6 : decode cX12_began 6 = .ok (.if_icmp .ge 23, 3) := by decide +kernel
theorem dX12_began_29 : decode cX12_began 29 = .ok (.return_, 1) := by decide +kernel
theorem dX12_began_9 : decode cX12_began 9 = .ok (.aload_n 0, 1) := by decide +kernel
theorem dX12_began_10 : decode cX12_began 10 = .ok (.getfield 81, 3) := by decide +kernel
theorem m_207 : Cond.fieldLink RX12 81 "InquiryBenchModel" "trace" "[I" ∈ BW := List.mem_of_getElem? (i := 207) (by decide +kernel)
theorem gf_X12_81 (hC : CX p s m meth c y0 b0 mL0 rt0 args) (hy0 : y0.cls = RX12) (hK : KK G s) (hP : va_P G.1 vwCl ws H) (q0 : Nat) {fs : List Value} {v : Value} (he : ws[q0]? = some (a, .inr (12, fs))) (hv : fs[34]? = some v) (hdg : decode b0 pc = .ok (.getfield 81, 3)) (kk : W p l e R s m args below meth c H locs cells slots Q (F0 m (pc + 3) ls (v :: rest))) : W p l e R s m args below meth c H locs cells slots Q (F0 m pc ls (.ref a :: rest)) := by
  obtain ⟨hx, hb, hr, hml, hB, hown, hlocks, hnm⟩ := hC
  rw [hy0] at hown
  exact va_get (ci := 12) (C := RX12) (T := TX12) (N := 41) hx hb hB in_X12 hown hK.1 hP q0 he rfl 34 (by decide) (hB _ m_207) (fun _ h => h) hv hdg kk
theorem dX12_began_13 : decode cX12_began 13 = .ok (.aload_n 0, 1) := by decide +kernel
theorem dX12_began_14 : decode cX12_began 14 = .ok (.getfield 351, 3) := by decide +kernel
theorem dX12_began_17 : decode cX12_began 17 = .ok (.iload_n 1, 1) := by decide +kernel
theorem dX12_began_18 : decode cX12_began 18 = .ok (.iastore, 1) := by decide +kernel
theorem dX12_began_19 : decode cX12_began 19 = .ok (.aload_n 0, 1) := by decide +kernel
theorem dX12_began_20 : decode cX12_began 20 = .ok (.dup, 1) := by decide +kernel
theorem dX12_began_21 : decode cX12_began 21 = .ok (.getfield 351, 3) := by decide +kernel
theorem dX12_began_24 : decode cX12_began 24 = .ok (.iconst 1, 1) := by decide +kernel
theorem dX12_began_25 : decode cX12_began 25 = .ok (.iadd, 1) := by decide +kernel
theorem dX12_began_26 : decode cX12_began 26 = .ok (.putfield 351, 3) := by decide +kernel
theorem pf_X12_351 (hC : CX p s m meth c y0 b0 mL0 rt0 args) (hy0 : y0.cls = RX12) (hK : KK G s) (hP : va_P G.1 vwCl ws H) (hD : va_D A ws) (hS : va_S A H0 H locs) (q0 : Nat) {fs : List Value} {v : Value} {ws' : va_W} (he : ws[q0]? = some (a, .inr (12, fs))) (hl : 35 < fs.length) (hws : ws.set q0 (a, .inr (12, fs.set 35 v)) = ws') (hn : narrow .int v = v) (hfit : fits .int v = true) (hdg : decode b0 pc = .ok (.putfield 351, 3)) (kk : ∀ (H1 : Heap) (locs1 : List Loc), va_P G.1 vwCl ws' H1 → va_D A ws' → va_S A H0 H1 locs1 → W p l e R s m args below meth c H1 locs1 cells slots Q (F0 m (pc + 3) ls rest)) : W p l e R s m args below meth c H locs cells slots Q (F0 m pc ls (v :: .ref a :: rest)) := by
  obtain ⟨hx, hb, hr, hml, hB, hown, hlocks, hnm⟩ := hC
  rw [hy0] at hown
  subst hws
  exact va_put (ci := 12) (ty := .int) (C := RX12) (T := TX12) (N := 41) hx hb hB in_X12 tyX12 tyX12_ok nmX12 hown hK.1 hP hD hS q0 he rfl 35 (by decide) (hB _ m_1346) (fun _ h => h) rfl (by decide +kernel) hn hfit hl hdg kk
end WR
theorem nz_sub {a b : Int32} (h : ¬ a = b) : ¬ a - b = 0 := by
  intro h9
  apply h
  have e : a - b + b = 0 + b := by rw [h9]
  rw [Int32.sub_add_cancel, Int32.zero_add] at e
  exact e
section WR
variable {p : Program} {l : Launch} {e : Env} {R : Room} {s : State} {m : MethodId} {args : Array Value} {below : List Frame} {meth : Method} {c : Code} {H : Heap} {locs : List Loc} {cells slots : Nat} {Q : State → Prop}
variable {pc : Nat} {ls : Array Slot} {rest : List Value} {G : GG} {ws : va_W} {A : Nat → Prop} {y0 : MethodName} {b0 : ByteArray} {mL0 : Nat} {rt0 : Option FieldType} {a : Nat} {H0 : Heap}
theorem dX12_body_0 : decode cX12_body 0 = .ok (.iconst 4, 1) := by decide +kernel
theorem dX12_body_1 : decode cX12_body 1 = .ok (.iload_n 1, 1) := by decide +kernel
theorem dX12_body_2 : decode cX12_body 2 = .ok (.imul, 1) := by decide +kernel
theorem dX12_body_3 : decode cX12_body 3 = .ok (.iload_n 2, 1) := by decide +kernel
theorem dX12_body_4 : decode cX12_body 4 = .ok (.iadd, 1) := by decide +kernel
theorem dX12_body_5 : decode cX12_body 5 = .ok (.tableswitch 348 0 22 #[107, 120, 135, 153, 348, 202, 348, 348, 348, 348, 221, 348, 348, 237, 348, 253, 269, 348, 288, 348, 329, 348, 313], 107) := by decide +kernel
theorem dX12_body_112 : decode cX12_body 112 = .ok (.aload_n 0, 1) := by decide +kernel
theorem dX12_body_113 : decode cX12_body 113 = .ok (.bipush 10, 2) := by decide +kernel
theorem dX12_body_115 : decode cX12_body 115 = .ok (.invokevirtual 366, 3) := by decide +kernel
theorem m_1363 : Cond.code yX12_began cX12_began 2 none ∈ BW := List.mem_of_getElem? (i := 1363) (by decide +kernel)
theorem m_1360 : Cond.methodLink RX12 366 yX12_began ∈ BW := List.mem_of_getElem? (i := 1360) (by decide +kernel)
theorem m_1361 : Cond.instanceMethod yX12_began ∈ BW := List.mem_of_getElem? (i := 1361) (by decide +kernel)
theorem m_1362 : Cond.selects RX12 yX12_began yX12_began ∈ BW := List.mem_of_getElem? (i := 1362) (by decide +kernel)
theorem si_X12_366 : SV RX12 RX12 366 yX12_began cX12_began 2 none 1 := ⟨⟨m_1360, m_1361, m_1362, m_5, m_1363⟩, rfl, by decide +kernel, by decide +kernel, by decide +kernel⟩
theorem dX12_body_118 : decode cX12_body 118 = .ok (.iload_n 3, 1) := by decide +kernel
theorem dX12_body_119 : decode cX12_body 119 = .ok (.aload_n 0, 1) := by decide +kernel
theorem dX12_body_120 : decode cX12_body 120 = .ok (.getfield 369, 3) := by decide +kernel
theorem m_1350 : Cond.fieldLink RX12 369 "InquiryBenchModel" "size" "I" ∈ BW := List.mem_of_getElem? (i := 1350) (by decide +kernel)
theorem gf_X12_369 (hC : CX p s m meth c y0 b0 mL0 rt0 args) (hy0 : y0.cls = RX12) (hK : KK G s) (hP : va_P G.1 vwCl ws H) (q0 : Nat) {fs : List Value} {v : Value} (he : ws[q0]? = some (a, .inr (12, fs))) (hv : fs[39]? = some v) (hdg : decode b0 pc = .ok (.getfield 369, 3)) (kk : W p l e R s m args below meth c H locs cells slots Q (F0 m (pc + 3) ls (v :: rest))) : W p l e R s m args below meth c H locs cells slots Q (F0 m pc ls (.ref a :: rest)) := by
  obtain ⟨hx, hb, hr, hml, hB, hown, hlocks, hnm⟩ := hC
  rw [hy0] at hown
  exact va_get (ci := 12) (C := RX12) (T := TX12) (N := 41) hx hb hB in_X12 hown hK.1 hP q0 he rfl 39 (by decide) (hB _ m_1350) (fun _ h => h) hv hdg kk
theorem dX12_body_123 : decode cX12_body 123 = .ok (.iadd, 1) := by decide +kernel
theorem dX12_body_124 : decode cX12_body 124 = .ok (.ireturn, 1) := by decide +kernel
theorem dX12_bodyFrom_0 : decode cX12_bodyFrom 0 = .ok (.iload_n 1, 1) := by decide +kernel
theorem dX12_bodyFrom_1 : decode cX12_bodyFrom 1 = .ok (.istore 4, 2) := by decide +kernel
theorem dX12_bodyFrom_3 : decode cX12_bodyFrom 3 = .ok (.iload 4, 2) := by decide +kernel
theorem dX12_bodyFrom_5 : decode cX12_bodyFrom 5 = .ok (.iload_n 2, 1) := by decide +kernel
theorem dX12_bodyFrom_6 : decode cX12_bodyFrom 6 = .ok (.invokestatic 360, 3) := by decide +kernel
theorem m_1367 : Cond.code yX12_hasOwn cX12_hasOwn 2 (some .boolean) ∈ BW := List.mem_of_getElem? (i := 1367) (by decide +kernel)
theorem m_1365 : Cond.methodLink RX12 360 yX12_hasOwn ∈ BW := List.mem_of_getElem? (i := 1365) (by decide +kernel)
theorem m_1366 : Cond.static yX12_hasOwn ∈ BW := List.mem_of_getElem? (i := 1366) (by decide +kernel)
theorem si_X12_360 : SS RX12 360 yX12_hasOwn cX12_hasOwn 2 (some .boolean) 2 := ⟨⟨m_1365, m_1366, m_5, m_1367⟩, ⟨by decide +kernel, by decide +kernel, by decide +kernel⟩⟩
theorem dX12_bodyFrom_9 : decode cX12_bodyFrom 9 = .ok (.ifCond .ne 13, 3) := by decide +kernel
theorem dX12_bodyFrom_22 : decode cX12_bodyFrom 22 = .ok (.aload_n 0, 1) := by decide +kernel
theorem dX12_bodyFrom_23 : decode cX12_bodyFrom 23 = .ok (.iload 4, 2) := by decide +kernel
theorem dX12_bodyFrom_25 : decode cX12_bodyFrom 25 = .ok (.iload_n 2, 1) := by decide +kernel
theorem dX12_bodyFrom_26 : decode cX12_bodyFrom 26 = .ok (.iload_n 3, 1) := by decide +kernel
theorem dX12_bodyFrom_27 : decode cX12_bodyFrom 27 = .ok (.invokevirtual 363, 3) := by decide +kernel
theorem m_1359 : Cond.code yX12_body cX12_body 6 (some .int) ∈ BW := List.mem_of_getElem? (i := 1359) (by decide +kernel)
theorem m_1368 : Cond.methodLink RX12 363 yX12_body ∈ BW := List.mem_of_getElem? (i := 1368) (by decide +kernel)
theorem m_1369 : Cond.instanceMethod yX12_body ∈ BW := List.mem_of_getElem? (i := 1369) (by decide +kernel)
theorem m_1370 : Cond.selects RX12 yX12_body yX12_body ∈ BW := List.mem_of_getElem? (i := 1370) (by decide +kernel)
theorem si_X12_363 : SV RX12 RX12 363 yX12_body cX12_body 6 (some .int) 3 := ⟨⟨m_1368, m_1369, m_1370, m_5, m_1359⟩, rfl, by decide +kernel, by decide +kernel, by decide +kernel⟩
theorem dX12_bodyFrom_30 : decode cX12_bodyFrom 30 = .ok (.ireturn, 1) := by decide +kernel
theorem dX12_body_274 : decode cX12_body 274 = .ok (.aload_n 0, 1) := by decide +kernel
theorem dX12_body_275 : decode cX12_body 275 = .ok (.bipush 50, 2) := by decide +kernel
theorem dX12_body_277 : decode cX12_body 277 = .ok (.invokevirtual 366, 3) := by decide +kernel
theorem dX12_body_280 : decode cX12_body 280 = .ok (.aload_n 0, 1) := by decide +kernel
theorem dX12_body_281 : decode cX12_body 281 = .ok (.iconst 0, 1) := by decide +kernel
theorem dX12_body_282 : decode cX12_body 282 = .ok (.iconst 0, 1) := by decide +kernel
theorem dX12_body_283 : decode cX12_body 283 = .ok (.iload_n 3, 1) := by decide +kernel
theorem dX12_body_284 : decode cX12_body 284 = .ok (.invokevirtual 357, 3) := by decide +kernel
theorem m_1364 : Cond.code yX12_bodyFrom cX12_bodyFrom 5 (some .int) ∈ BW := List.mem_of_getElem? (i := 1364) (by decide +kernel)
theorem m_1356 : Cond.methodLink RX12 357 yX12_bodyFrom ∈ BW := List.mem_of_getElem? (i := 1356) (by decide +kernel)
theorem m_1357 : Cond.instanceMethod yX12_bodyFrom ∈ BW := List.mem_of_getElem? (i := 1357) (by decide +kernel)
theorem m_1358 : Cond.selects RX12 yX12_bodyFrom yX12_bodyFrom ∈ BW := List.mem_of_getElem? (i := 1358) (by decide +kernel)
theorem si_X12_357 : SV RX12 RX12 357 yX12_bodyFrom cX12_bodyFrom 5 (some .int) 3 := ⟨⟨m_1356, m_1357, m_1358, m_5, m_1364⟩, rfl, by decide +kernel, by decide +kernel, by decide +kernel⟩
theorem dX12_body_287 : decode cX12_body 287 = .ok (.aload_n 0, 1) := by decide +kernel
theorem dX12_body_288 : decode cX12_body 288 = .ok (.getfield 378, 3) := by decide +kernel
theorem m_1348 : Cond.fieldLink RX12 378 "InquiryBenchModel" "numbe\x72" "I" ∈ BW := List.mem_of_getElem? (i := 1348) (by decide +kernel)
theorem gf_X12_378 (hC : CX p s m meth c y0 b0 mL0 rt0 args) (hy0 : y0.cls = RX12) (hK : KK G s) (hP : va_P G.1 vwCl ws H) (q0 : Nat) {fs : List Value} {v : Value} (he : ws[q0]? = some (a, .inr (12, fs))) (hv : fs[37]? = some v) (hdg : decode b0 pc = .ok (.getfield 378, 3)) (kk : W p l e R s m args below meth c H locs cells slots Q (F0 m (pc + 3) ls (v :: rest))) : W p l e R s m args below meth c H locs cells slots Q (F0 m pc ls (.ref a :: rest)) := by
  obtain ⟨hx, hb, hr, hml, hB, hown, hlocks, hnm⟩ := hC
  rw [hy0] at hown
  exact va_get (ci := 12) (C := RX12) (T := TX12) (N := 41) hx hb hB in_X12 hown hK.1 hP q0 he rfl 37 (by decide) (hB _ m_1348) (fun _ h => h) hv hdg kk
theorem dX12_body_291 : decode cX12_body 291 = .ok (.isub, 1) := by decide +kernel
theorem dX12_body_292 : decode cX12_body 292 = .ok (.ireturn, 1) := by decide +kernel
theorem dX12_body_334 : decode cX12_body 334 = .ok (.aload_n 0, 1) := by decide +kernel
theorem dX12_body_335 : decode cX12_body 335 = .ok (.bipush 61, 2) := by decide +kernel
theorem dX12_body_337 : decode cX12_body 337 = .ok (.invokevirtual 366, 3) := by decide +kernel
theorem dX12_body_340 : decode cX12_body 340 = .ok (.aload_n 0, 1) := by decide +kernel
theorem dX12_body_341 : decode cX12_body 341 = .ok (.iconst 4, 1) := by decide +kernel
theorem dX12_body_342 : decode cX12_body 342 = .ok (.iconst 0, 1) := by decide +kernel
theorem dX12_body_343 : decode cX12_body 343 = .ok (.iload_n 3, 1) := by decide +kernel
theorem dX12_body_344 : decode cX12_body 344 = .ok (.aload_n 0, 1) := by decide +kernel
theorem dX12_body_345 : decode cX12_body 345 = .ok (.getfield 375, 3) := by decide +kernel
theorem m_1349 : Cond.fieldLink RX12 375 "InquiryBenchModel" "whose" "I" ∈ BW := List.mem_of_getElem? (i := 1349) (by decide +kernel)
theorem gf_X12_375 (hC : CX p s m meth c y0 b0 mL0 rt0 args) (hy0 : y0.cls = RX12) (hK : KK G s) (hP : va_P G.1 vwCl ws H) (q0 : Nat) {fs : List Value} {v : Value} (he : ws[q0]? = some (a, .inr (12, fs))) (hv : fs[38]? = some v) (hdg : decode b0 pc = .ok (.getfield 375, 3)) (kk : W p l e R s m args below meth c H locs cells slots Q (F0 m (pc + 3) ls (v :: rest))) : W p l e R s m args below meth c H locs cells slots Q (F0 m pc ls (.ref a :: rest)) := by
  obtain ⟨hx, hb, hr, hml, hB, hown, hlocks, hnm⟩ := hC
  rw [hy0] at hown
  exact va_get (ci := 12) (C := RX12) (T := TX12) (N := 41) hx hb hB in_X12 hown hK.1 hP q0 he rfl 38 (by decide) (hB _ m_1349) (fun _ h => h) hv hdg kk
theorem dX12_body_348 : decode cX12_body 348 = .ok (.iadd, 1) := by decide +kernel
theorem dX12_body_349 : decode cX12_body 349 = .ok (.invokevirtual 357, 3) := by decide +kernel
theorem dX12_body_352 : decode cX12_body 352 = .ok (.ireturn, 1) := by decide +kernel
theorem dX12_bodyFrom_12 : decode cX12_bodyFrom 12 = .ok (.iload 4, 2) := by decide +kernel
theorem dX12_bodyFrom_14 : decode cX12_bodyFrom 14 = .ok (.invokestatic 348, 3) := by decide +kernel
theorem dX12_bodyFrom_17 : decode cX12_bodyFrom 17 = .ok (.istore 4, 2) := by decide +kernel
theorem dX12_bodyFrom_19 : decode cX12_bodyFrom 19 = .ok (.goto (-16), 3) := by decide +kernel
theorem dX12_dealt_0 : decode cX12_dealt 0 = .ok (.aload_n 0, 1) := by decide +kernel
theorem dX12_dealt_1 : decode cX12_dealt 1 = .ok (.aload_n 0, 1) := by decide +kernel
theorem dX12_dealt_2 : decode cX12_dealt 2 = .ok (.getfield 354, 3) := by decide +kernel
theorem m_1347 : Cond.fieldLink RX12 354 "InquiryBenchModel" "deale\x72" "I" ∈ BW := List.mem_of_getElem? (i := 1347) (by decide +kernel)
theorem gf_X12_354 (hC : CX p s m meth c y0 b0 mL0 rt0 args) (hy0 : y0.cls = RX12) (hK : KK G s) (hP : va_P G.1 vwCl ws H) (q0 : Nat) {fs : List Value} {v : Value} (he : ws[q0]? = some (a, .inr (12, fs))) (hv : fs[36]? = some v) (hdg : decode b0 pc = .ok (.getfield 354, 3)) (kk : W p l e R s m args below meth c H locs cells slots Q (F0 m (pc + 3) ls (v :: rest))) : W p l e R s m args below meth c H locs cells slots Q (F0 m pc ls (.ref a :: rest)) := by
  obtain ⟨hx, hb, hr, hml, hB, hown, hlocks, hnm⟩ := hC
  rw [hy0] at hown
  exact va_get (ci := 12) (C := RX12) (T := TX12) (N := 41) hx hb hB in_X12 hown hK.1 hP q0 he rfl 36 (by decide) (hB _ m_1347) (fun _ h => h) hv hdg kk
theorem dX12_dealt_5 : decode cX12_dealt 5 = .ok (.iload_n 1, 1) := by decide +kernel
theorem dX12_dealt_6 : decode cX12_dealt 6 = .ok (.iload_n 2, 1) := by decide +kernel
theorem dX12_dealt_7 : decode cX12_dealt 7 = .ok (.invokevirtual 357, 3) := by decide +kernel
theorem dX12_dealt_10 : decode cX12_dealt 10 = .ok (.ireturn, 1) := by decide +kernel
theorem dX12_body_125 : decode cX12_body 125 = .ok (.aload_n 0, 1) := by decide +kernel
theorem dX12_body_126 : decode cX12_body 126 = .ok (.bipush 11, 2) := by decide +kernel
theorem dX12_body_128 : decode cX12_body 128 = .ok (.invokevirtual 366, 3) := by decide +kernel
theorem dX12_body_131 : decode cX12_body 131 = .ok (.aload_n 0, 1) := by decide +kernel
theorem dX12_body_132 : decode cX12_body 132 = .ok (.iconst 0, 1) := by decide +kernel
theorem dX12_body_133 : decode cX12_body 133 = .ok (.iload_n 3, 1) := by decide +kernel
theorem dX12_body_134 : decode cX12_body 134 = .ok (.invokevirtual 372, 3) := by decide +kernel
theorem m_1355 : Cond.code yX12_dealt cX12_dealt 3 (some .int) ∈ BW := List.mem_of_getElem? (i := 1355) (by decide +kernel)
theorem m_1352 : Cond.methodLink RX12 372 yX12_dealt ∈ BW := List.mem_of_getElem? (i := 1352) (by decide +kernel)
theorem m_1353 : Cond.instanceMethod yX12_dealt ∈ BW := List.mem_of_getElem? (i := 1353) (by decide +kernel)
theorem m_1354 : Cond.selects RX12 yX12_dealt yX12_dealt ∈ BW := List.mem_of_getElem? (i := 1354) (by decide +kernel)
theorem si_X12_372 : SV RX12 RX12 372 yX12_dealt cX12_dealt 3 (some .int) 2 := ⟨⟨m_1352, m_1353, m_1354, m_5, m_1355⟩, rfl, by decide +kernel, by decide +kernel, by decide +kernel⟩
theorem dX12_body_137 : decode cX12_body 137 = .ok (.iconst 2, 1) := by decide +kernel
theorem dX12_body_138 : decode cX12_body 138 = .ok (.imul, 1) := by decide +kernel
theorem dX12_body_139 : decode cX12_body 139 = .ok (.ireturn, 1) := by decide +kernel
theorem dX12_body_207 : decode cX12_body 207 = .ok (.aload_n 0, 1) := by decide +kernel
theorem dX12_body_208 : decode cX12_body 208 = .ok (.bipush 20, 2) := by decide +kernel
theorem dX12_body_210 : decode cX12_body 210 = .ok (.invokevirtual 366, 3) := by decide +kernel
theorem dX12_body_213 : decode cX12_body 213 = .ok (.aload_n 0, 1) := by decide +kernel
theorem dX12_body_214 : decode cX12_body 214 = .ok (.iconst 0, 1) := by decide +kernel
theorem dX12_body_215 : decode cX12_body 215 = .ok (.iconst 1, 1) := by decide +kernel
theorem dX12_body_216 : decode cX12_body 216 = .ok (.iload_n 3, 1) := by decide +kernel
theorem dX12_body_217 : decode cX12_body 217 = .ok (.invokevirtual 357, 3) := by decide +kernel
theorem dX12_body_220 : decode cX12_body 220 = .ok (.aload_n 0, 1) := by decide +kernel
theorem dX12_body_221 : decode cX12_body 221 = .ok (.getfield 378, 3) := by decide +kernel
theorem dX12_body_224 : decode cX12_body 224 = .ok (.ixor, 1) := by decide +kernel
theorem dX12_body_225 : decode cX12_body 225 = .ok (.ireturn, 1) := by decide +kernel
theorem dX12_body_242 : decode cX12_body 242 = .ok (.aload_n 0, 1) := by decide +kernel
theorem dX12_body_243 : decode cX12_body 243 = .ok (.bipush 40, 2) := by decide +kernel
theorem dX12_body_245 : decode cX12_body 245 = .ok (.invokevirtual 366, 3) := by decide +kernel
theorem dX12_body_248 : decode cX12_body 248 = .ok (.iconst 0, 1) := by decide +kernel
theorem dX12_body_249 : decode cX12_body 249 = .ok (.aload_n 0, 1) := by decide +kernel
theorem dX12_body_250 : decode cX12_body 250 = .ok (.iconst 1, 1) := by decide +kernel
theorem dX12_body_251 : decode cX12_body 251 = .ok (.iconst 1, 1) := by decide +kernel
theorem dX12_body_252 : decode cX12_body 252 = .ok (.iload_n 3, 1) := by decide +kernel
theorem dX12_body_253 : decode cX12_body 253 = .ok (.invokevirtual 357, 3) := by decide +kernel
theorem dX12_body_256 : decode cX12_body 256 = .ok (.isub, 1) := by decide +kernel
theorem dX12_body_257 : decode cX12_body 257 = .ok (.ireturn, 1) := by decide +kernel
theorem dX12_body_140 : decode cX12_body 140 = .ok (.aload_n 0, 1) := by decide +kernel
theorem dX12_body_141 : decode cX12_body 141 = .ok (.bipush 12, 2) := by decide +kernel
theorem dX12_body_143 : decode cX12_body 143 = .ok (.invokevirtual 366, 3) := by decide +kernel
theorem dX12_body_146 : decode cX12_body 146 = .ok (.aload_n 0, 1) := by decide +kernel
theorem dX12_body_147 : decode cX12_body 147 = .ok (.iconst 1, 1) := by decide +kernel
theorem dX12_body_148 : decode cX12_body 148 = .ok (.iload_n 3, 1) := by decide +kernel
theorem dX12_body_149 : decode cX12_body 149 = .ok (.invokevirtual 372, 3) := by decide +kernel
theorem dX12_body_152 : decode cX12_body 152 = .ok (.aload_n 0, 1) := by decide +kernel
theorem dX12_body_153 : decode cX12_body 153 = .ok (.getfield 375, 3) := by decide +kernel
theorem dX12_body_156 : decode cX12_body 156 = .ok (.isub, 1) := by decide +kernel
theorem dX12_body_157 : decode cX12_body 157 = .ok (.ireturn, 1) := by decide +kernel
theorem dX12_body_226 : decode cX12_body 226 = .ok (.aload_n 0, 1) := by decide +kernel
theorem dX12_body_227 : decode cX12_body 227 = .ok (.bipush 30, 2) := by decide +kernel
theorem dX12_body_229 : decode cX12_body 229 = .ok (.invokevirtual 366, 3) := by decide +kernel
theorem dX12_body_232 : decode cX12_body 232 = .ok (.aload_n 0, 1) := by decide +kernel
theorem dX12_body_233 : decode cX12_body 233 = .ok (.iconst 0, 1) := by decide +kernel
theorem dX12_body_234 : decode cX12_body 234 = .ok (.iconst 2, 1) := by decide +kernel
theorem dX12_body_235 : decode cX12_body 235 = .ok (.iload_n 3, 1) := by decide +kernel
theorem dX12_body_236 : decode cX12_body 236 = .ok (.invokevirtual 357, 3) := by decide +kernel
theorem dX12_body_239 : decode cX12_body 239 = .ok (.iconst 3, 1) := by decide +kernel
theorem dX12_body_240 : decode cX12_body 240 = .ok (.imul, 1) := by decide +kernel
theorem dX12_body_241 : decode cX12_body 241 = .ok (.ireturn, 1) := by decide +kernel
theorem dX12_body_293 : decode cX12_body 293 = .ok (.aload_n 0, 1) := by decide +kernel
theorem dX12_body_294 : decode cX12_body 294 = .ok (.bipush 51, 2) := by decide +kernel
theorem dX12_body_296 : decode cX12_body 296 = .ok (.invokevirtual 366, 3) := by decide +kernel
theorem dX12_body_299 : decode cX12_body 299 = .ok (.aload_n 0, 1) := by decide +kernel
theorem dX12_body_300 : decode cX12_body 300 = .ok (.iconst 0, 1) := by decide +kernel
theorem dX12_body_301 : decode cX12_body 301 = .ok (.iconst 2, 1) := by decide +kernel
theorem dX12_body_302 : decode cX12_body 302 = .ok (.iload_n 3, 1) := by decide +kernel
theorem dX12_body_303 : decode cX12_body 303 = .ok (.invokevirtual 357, 3) := by decide +kernel
theorem dX12_body_306 : decode cX12_body 306 = .ok (.istore 4, 2) := by decide +kernel
theorem dX12_body_308 : decode cX12_body 308 = .ok (.iload 4, 2) := by decide +kernel
theorem dX12_body_310 : decode cX12_body 310 = .ok (.aload_n 0, 1) := by decide +kernel
theorem dX12_body_311 : decode cX12_body 311 = .ok (.iconst 1, 1) := by decide +kernel
theorem dX12_body_312 : decode cX12_body 312 = .ok (.iconst 1, 1) := by decide +kernel
theorem dX12_body_313 : decode cX12_body 313 = .ok (.invokevirtual 372, 3) := by decide +kernel
theorem dX12_body_316 : decode cX12_body 316 = .ok (.iadd, 1) := by decide +kernel
theorem dX12_body_317 : decode cX12_body 317 = .ok (.ireturn, 1) := by decide +kernel
theorem dX12_body_318 : decode cX12_body 318 = .ok (.aload_n 0, 1) := by decide +kernel
theorem dX12_body_319 : decode cX12_body 319 = .ok (.bipush 60, 2) := by decide +kernel
theorem dX12_body_321 : decode cX12_body 321 = .ok (.invokevirtual 366, 3) := by decide +kernel
theorem dX12_body_324 : decode cX12_body 324 = .ok (.aload_n 0, 1) := by decide +kernel
theorem dX12_body_325 : decode cX12_body 325 = .ok (.iconst 4, 1) := by decide +kernel
theorem dX12_body_326 : decode cX12_body 326 = .ok (.iconst 2, 1) := by decide +kernel
theorem dX12_body_327 : decode cX12_body 327 = .ok (.iload_n 3, 1) := by decide +kernel
theorem dX12_body_328 : decode cX12_body 328 = .ok (.invokevirtual 357, 3) := by decide +kernel
theorem dX12_body_331 : decode cX12_body 331 = .ok (.iconst 2, 1) := by decide +kernel
theorem dX12_body_332 : decode cX12_body 332 = .ok (.imul, 1) := by decide +kernel
theorem dX12_body_333 : decode cX12_body 333 = .ok (.ireturn, 1) := by decide +kernel
theorem dX12_body_158 : decode cX12_body 158 = .ok (.aload_n 0, 1) := by decide +kernel
theorem dX12_body_159 : decode cX12_body 159 = .ok (.bipush 13, 2) := by decide +kernel
theorem dX12_body_161 : decode cX12_body 161 = .ok (.invokevirtual 366, 3) := by decide +kernel
theorem dX12_body_164 : decode cX12_body 164 = .ok (.aload_n 0, 1) := by decide +kernel
theorem dX12_body_165 : decode cX12_body 165 = .ok (.aload_n 0, 1) := by decide +kernel
theorem dX12_body_166 : decode cX12_body 166 = .ok (.getfield 375, 3) := by decide +kernel
theorem dX12_body_169 : decode cX12_body 169 = .ok (.aload_n 0, 1) := by decide +kernel
theorem dX12_body_170 : decode cX12_body 170 = .ok (.getfield 378, 3) := by decide +kernel
theorem dX12_body_173 : decode cX12_body 173 = .ok (.if_icmp .ne 7, 3) := by decide +kernel
theorem dX12_body_180 : decode cX12_body 180 = .ok (.iconst 0, 1) := by decide +kernel
theorem dX12_body_181 : decode cX12_body 181 = .ok (.putfield 380, 3) := by decide +kernel
theorem m_1351 : Cond.fieldLink RX12 380 "InquiryBenchModel" "isParted" "Z" ∈ BW := List.mem_of_getElem? (i := 1351) (by decide +kernel)
theorem pf_X12_380 (hC : CX p s m meth c y0 b0 mL0 rt0 args) (hy0 : y0.cls = RX12) (hK : KK G s) (hP : va_P G.1 vwCl ws H) (hD : va_D A ws) (hS : va_S A H0 H locs) (q0 : Nat) {fs : List Value} {v : Value} {ws' : va_W} (he : ws[q0]? = some (a, .inr (12, fs))) (hl : 40 < fs.length) (hws : ws.set q0 (a, .inr (12, fs.set 40 v)) = ws') (hn : narrow .boolean v = v) (hfit : fits .boolean v = true) (hdg : decode b0 pc = .ok (.putfield 380, 3)) (kk : ∀ (H1 : Heap) (locs1 : List Loc), va_P G.1 vwCl ws' H1 → va_D A ws' → va_S A H0 H1 locs1 → W p l e R s m args below meth c H1 locs1 cells slots Q (F0 m (pc + 3) ls rest)) : W p l e R s m args below meth c H locs cells slots Q (F0 m pc ls (v :: .ref a :: rest)) := by
  obtain ⟨hx, hb, hr, hml, hB, hown, hlocks, hnm⟩ := hC
  rw [hy0] at hown
  subst hws
  exact va_put (ci := 12) (ty := .boolean) (C := RX12) (T := TX12) (N := 41) hx hb hB in_X12 tyX12 tyX12_ok nmX12 hown hK.1 hP hD hS q0 he rfl 40 (by decide) (hB _ m_1351) (fun _ h => h) rfl (by decide +kernel) hn hfit hl hdg kk
theorem dX12_body_184 : decode cX12_body 184 = .ok (.aload_n 0, 1) := by decide +kernel
theorem dX12_body_185 : decode cX12_body 185 = .ok (.getfield 380, 3) := by decide +kernel
theorem gf_X12_380 (hC : CX p s m meth c y0 b0 mL0 rt0 args) (hy0 : y0.cls = RX12) (hK : KK G s) (hP : va_P G.1 vwCl ws H) (q0 : Nat) {fs : List Value} {v : Value} (he : ws[q0]? = some (a, .inr (12, fs))) (hv : fs[40]? = some v) (hdg : decode b0 pc = .ok (.getfield 380, 3)) (kk : W p l e R s m args below meth c H locs cells slots Q (F0 m (pc + 3) ls (v :: rest))) : W p l e R s m args below meth c H locs cells slots Q (F0 m pc ls (.ref a :: rest)) := by
  obtain ⟨hx, hb, hr, hml, hB, hown, hlocks, hnm⟩ := hC
  rw [hy0] at hown
  exact va_get (ci := 12) (C := RX12) (T := TX12) (N := 41) hx hb hB in_X12 hown hK.1 hP q0 he rfl 40 (by decide) (hB _ m_1351) (fun _ h => h) hv hdg kk
theorem dX12_body_188 : decode cX12_body 188 = .ok (.ifCond .eq 7, 3) := by decide +kernel
theorem dX12_body_195 : decode cX12_body 195 = .ok (.iload_n 3, 1) := by decide +kernel
theorem dX12_body_196 : decode cX12_body 196 = .ok (.aload_n 0, 1) := by decide +kernel
theorem dX12_body_197 : decode cX12_body 197 = .ok (.getfield 375, 3) := by decide +kernel
theorem dX12_body_200 : decode cX12_body 200 = .ok (.aload_n 0, 1) := by decide +kernel
theorem dX12_body_201 : decode cX12_body 201 = .ok (.getfield 378, 3) := by decide +kernel
theorem dX12_body_204 : decode cX12_body 204 = .ok (.isub, 1) := by decide +kernel
theorem dX12_body_205 : decode cX12_body 205 = .ok (.idiv, 1) := by decide +kernel
theorem dX12_body_206 : decode cX12_body 206 = .ok (.ireturn, 1) := by decide +kernel
theorem dX12_body_176 : decode cX12_body 176 = .ok (.iconst 1, 1) := by decide +kernel
theorem dX12_body_177 : decode cX12_body 177 = .ok (.goto 4, 3) := by decide +kernel
theorem dX12_body_191 : decode cX12_body 191 = .ok (.iconst 0, 1) := by decide +kernel
theorem dX12_body_192 : decode cX12_body 192 = .ok (.goto 14, 3) := by decide +kernel
theorem dX12_body_258 : decode cX12_body 258 = .ok (.aload_n 0, 1) := by decide +kernel
theorem dX12_body_259 : decode cX12_body 259 = .ok (.bipush 41, 2) := by decide +kernel
theorem dX12_body_261 : decode cX12_body 261 = .ok (.invokevirtual 366, 3) := by decide +kernel
theorem dX12_body_264 : decode cX12_body 264 = .ok (.aload_n 0, 1) := by decide +kernel
theorem dX12_body_265 : decode cX12_body 265 = .ok (.iconst 1, 1) := by decide +kernel
theorem dX12_body_266 : decode cX12_body 266 = .ok (.iconst 3, 1) := by decide +kernel
theorem dX12_body_267 : decode cX12_body 267 = .ok (.iload_n 3, 1) := by decide +kernel
theorem dX12_body_268 : decode cX12_body 268 = .ok (.iconst 2, 1) := by decide +kernel
theorem dX12_body_269 : decode cX12_body 269 = .ok (.iadd, 1) := by decide +kernel
theorem dX12_body_270 : decode cX12_body 270 = .ok (.invokevirtual 357, 3) := by decide +kernel
theorem dX12_body_273 : decode cX12_body 273 = .ok (.ireturn, 1) := by decide +kernel
theorem dX12_body_353 : decode cX12_body 353 = .ok (.aload_n 0, 1) := by decide +kernel
theorem dX12_body_354 : decode cX12_body 354 = .ok (.bipush 70, 2) := by decide +kernel
theorem dX12_body_356 : decode cX12_body 356 = .ok (.invokevirtual 366, 3) := by decide +kernel
theorem dX12_body_359 : decode cX12_body 359 = .ok (.aload_n 0, 1) := by decide +kernel
theorem dX12_body_360 : decode cX12_body 360 = .ok (.iconst 0, 1) := by decide +kernel
theorem dX12_body_361 : decode cX12_body 361 = .ok (.iconst 3, 1) := by decide +kernel
theorem dX12_body_362 : decode cX12_body 362 = .ok (.iload_n 3, 1) := by decide +kernel
theorem dX12_body_363 : decode cX12_body 363 = .ok (.invokevirtual 357, 3) := by decide +kernel
theorem dX12_body_366 : decode cX12_body 366 = .ok (.istore 5, 2) := by decide +kernel
theorem dX12_body_368 : decode cX12_body 368 = .ok (.aload_n 0, 1) := by decide +kernel
theorem dX12_body_369 : decode cX12_body 369 = .ok (.getfield 380, 3) := by decide +kernel
theorem dX12_body_372 : decode cX12_body 372 = .ok (.ifCond .eq 7, 3) := by decide +kernel
theorem dX12_body_379 : decode cX12_body 379 = .ok (.iload 5, 2) := by decide +kernel
theorem dX12_body_381 : decode cX12_body 381 = .ok (.aload_n 0, 1) := by decide +kernel
theorem dX12_body_382 : decode cX12_body 382 = .ok (.iconst 0, 1) := by decide +kernel
theorem dX12_body_383 : decode cX12_body 383 = .ok (.aload_n 0, 1) := by decide +kernel
theorem dX12_body_384 : decode cX12_body 384 = .ok (.getfield 378, 3) := by decide +kernel
theorem dX12_body_387 : decode cX12_body 387 = .ok (.invokevirtual 372, 3) := by decide +kernel
theorem dX12_body_390 : decode cX12_body 390 = .ok (.isub, 1) := by decide +kernel
theorem dX12_body_391 : decode cX12_body 391 = .ok (.ireturn, 1) := by decide +kernel
theorem dX12_body_375 : decode cX12_body 375 = .ok (.iconst 0, 1) := by decide +kernel
theorem dX12_body_376 : decode cX12_body 376 = .ok (.goto 15, 3) := by decide +kernel
theorem dX12_deal_0 : decode cX12_deal 0 = .ok (.aload_n 0, 1) := by decide +kernel
theorem dX12_deal_1 : decode cX12_deal 1 = .ok (.iconst 0, 1) := by decide +kernel
theorem dX12_deal_2 : decode cX12_deal 2 = .ok (.putfield 351, 3) := by decide +kernel
theorem dX12_deal_5 : decode cX12_deal 5 = .ok (.iload_n 1, 1) := by decide +kernel
theorem dX12_deal_6 : decode cX12_deal 6 = .ok (.invokestatic 336, 3) := by decide +kernel
theorem dX12_deal_9 : decode cX12_deal 9 = .ok (.ifCond .eq 10, 3) := by decide +kernel
theorem dX12_deal_12 : decode cX12_deal 12 = .ok (.iload_n 2, 1) := by decide +kernel
theorem dX12_deal_13 : decode cX12_deal 13 = .ok (.invokestatic 336, 3) := by decide +kernel
theorem dX12_deal_16 : decode cX12_deal 16 = .ok (.ifCond .ne 7, 3) := by decide +kernel
theorem dX12_deal_23 : decode cX12_deal 23 = .ok (.aload_n 0, 1) := by decide +kernel
theorem dX12_deal_24 : decode cX12_deal 24 = .ok (.iload_n 1, 1) := by decide +kernel
theorem dX12_deal_25 : decode cX12_deal 25 = .ok (.invokevirtual 345, 3) := by decide +kernel
theorem dX12_deal_28 : decode cX12_deal 28 = .ok (.istore 4, 2) := by decide +kernel
theorem dX12_deal_30 : decode cX12_deal 30 = .ok (.iload 4, 2) := by decide +kernel
theorem dX12_deal_32 : decode cX12_deal 32 = .ok (.ifCond .ge 5, 3) := by decide +kernel
theorem dX12_deal_35 : decode cX12_deal 35 = .ok (.iconst 0, 1) := by decide +kernel
theorem dX12_deal_36 : decode cX12_deal 36 = .ok (.ireturn, 1) := by decide +kernel
theorem dX12_deal_37 : decode cX12_deal 37 = .ok (.aload_n 0, 1) := by decide +kernel
theorem dX12_deal_38 : decode cX12_deal 38 = .ok (.iload 4, 2) := by decide +kernel
theorem dX12_deal_40 : decode cX12_deal 40 = .ok (.putfield 354, 3) := by decide +kernel
theorem pf_X12_354 (hC : CX p s m meth c y0 b0 mL0 rt0 args) (hy0 : y0.cls = RX12) (hK : KK G s) (hP : va_P G.1 vwCl ws H) (hD : va_D A ws) (hS : va_S A H0 H locs) (q0 : Nat) {fs : List Value} {v : Value} {ws' : va_W} (he : ws[q0]? = some (a, .inr (12, fs))) (hl : 36 < fs.length) (hws : ws.set q0 (a, .inr (12, fs.set 36 v)) = ws') (hn : narrow .int v = v) (hfit : fits .int v = true) (hdg : decode b0 pc = .ok (.putfield 354, 3)) (kk : ∀ (H1 : Heap) (locs1 : List Loc), va_P G.1 vwCl ws' H1 → va_D A ws' → va_S A H0 H1 locs1 → W p l e R s m args below meth c H1 locs1 cells slots Q (F0 m (pc + 3) ls rest)) : W p l e R s m args below meth c H locs cells slots Q (F0 m pc ls (v :: .ref a :: rest)) := by
  obtain ⟨hx, hb, hr, hml, hB, hown, hlocks, hnm⟩ := hC
  rw [hy0] at hown
  subst hws
  exact va_put (ci := 12) (ty := .int) (C := RX12) (T := TX12) (N := 41) hx hb hB in_X12 tyX12 tyX12_ok nmX12 hown hK.1 hP hD hS q0 he rfl 36 (by decide) (hB _ m_1347) (fun _ h => h) rfl (by decide +kernel) hn hfit hl hdg kk
theorem dX12_deal_43 : decode cX12_deal 43 = .ok (.aload_n 0, 1) := by decide +kernel
theorem dX12_deal_44 : decode cX12_deal 44 = .ok (.aload_n 0, 1) := by decide +kernel
theorem dX12_deal_45 : decode cX12_deal 45 = .ok (.getfield 75, 3) := by decide +kernel
theorem dX12_deal_48 : decode cX12_deal 48 = .ok (.iload_n 1, 1) := by decide +kernel
theorem dX12_deal_49 : decode cX12_deal 49 = .ok (.iaload, 1) := by decide +kernel
theorem dX12_deal_50 : decode cX12_deal 50 = .ok (.putfield 378, 3) := by decide +kernel
theorem pf_X12_378 (hC : CX p s m meth c y0 b0 mL0 rt0 args) (hy0 : y0.cls = RX12) (hK : KK G s) (hP : va_P G.1 vwCl ws H) (hD : va_D A ws) (hS : va_S A H0 H locs) (q0 : Nat) {fs : List Value} {v : Value} {ws' : va_W} (he : ws[q0]? = some (a, .inr (12, fs))) (hl : 37 < fs.length) (hws : ws.set q0 (a, .inr (12, fs.set 37 v)) = ws') (hn : narrow .int v = v) (hfit : fits .int v = true) (hdg : decode b0 pc = .ok (.putfield 378, 3)) (kk : ∀ (H1 : Heap) (locs1 : List Loc), va_P G.1 vwCl ws' H1 → va_D A ws' → va_S A H0 H1 locs1 → W p l e R s m args below meth c H1 locs1 cells slots Q (F0 m (pc + 3) ls rest)) : W p l e R s m args below meth c H locs cells slots Q (F0 m pc ls (v :: .ref a :: rest)) := by
  obtain ⟨hx, hb, hr, hml, hB, hown, hlocks, hnm⟩ := hC
  rw [hy0] at hown
  subst hws
  exact va_put (ci := 12) (ty := .int) (C := RX12) (T := TX12) (N := 41) hx hb hB in_X12 tyX12 tyX12_ok nmX12 hown hK.1 hP hD hS q0 he rfl 37 (by decide) (hB _ m_1348) (fun _ h => h) rfl (by decide +kernel) hn hfit hl hdg kk
theorem dX12_deal_53 : decode cX12_deal 53 = .ok (.aload_n 0, 1) := by decide +kernel
theorem dX12_deal_54 : decode cX12_deal 54 = .ok (.getfield 72, 3) := by decide +kernel
theorem dX12_deal_57 : decode cX12_deal 57 = .ok (.iload_n 1, 1) := by decide +kernel
theorem dX12_deal_58 : decode cX12_deal 58 = .ok (.iaload, 1) := by decide +kernel
theorem dX12_deal_59 : decode cX12_deal 59 = .ok (.iconst 1, 1) := by decide +kernel
theorem dX12_deal_60 : decode cX12_deal 60 = .ok (.if_icmp .ne 7, 3) := by decide +kernel
theorem dX12_deal_63 : decode cX12_deal 63 = .ok (.iconst 1, 1) := by decide +kernel
theorem dX12_deal_64 : decode cX12_deal 64 = .ok (.goto 4, 3) := by decide +kernel
theorem dX12_deal_68 : decode cX12_deal 68 = .ok (.istore 5, 2) := by decide +kernel
theorem dX12_deal_70 : decode cX12_deal 70 = .ok (.aload_n 0, 1) := by decide +kernel
theorem dX12_deal_71 : decode cX12_deal 71 = .ok (.getfield 72, 3) := by decide +kernel
theorem dX12_deal_74 : decode cX12_deal 74 = .ok (.iload_n 1, 1) := by decide +kernel
theorem dX12_deal_75 : decode cX12_deal 75 = .ok (.iaload, 1) := by decide +kernel
theorem dX12_deal_76 : decode cX12_deal 76 = .ok (.iconst 2, 1) := by decide +kernel
theorem dX12_deal_77 : decode cX12_deal 77 = .ok (.if_icmp .ne 7, 3) := by decide +kernel
theorem dX12_deal_84 : decode cX12_deal 84 = .ok (.iconst 0, 1) := by decide +kernel
theorem dX12_deal_85 : decode cX12_deal 85 = .ok (.istore 6, 2) := by decide +kernel
theorem dX12_deal_87 : decode cX12_deal 87 = .ok (.aload_n 0, 1) := by decide +kernel
theorem dX12_deal_88 : decode cX12_deal 88 = .ok (.iload 5, 2) := by decide +kernel
theorem dX12_deal_90 : decode cX12_deal 90 = .ok (.ifCond .eq 15, 3) := by decide +kernel
theorem dX12_deal_93 : decode cX12_deal 93 = .ok (.aload_n 0, 1) := by decide +kernel
theorem dX12_deal_94 : decode cX12_deal 94 = .ok (.aload_n 0, 1) := by decide +kernel
theorem dX12_deal_95 : decode cX12_deal 95 = .ok (.getfield 378, 3) := by decide +kernel
theorem dX12_deal_98 : decode cX12_deal 98 = .ok (.iconst 0, 1) := by decide +kernel
theorem dX12_deal_99 : decode cX12_deal 99 = .ok (.invokevirtual 88, 3) := by decide +kernel
theorem dX12_deal_102 : decode cX12_deal 102 = .ok (.goto 37, 3) := by decide +kernel
theorem dX12_deal_139 : decode cX12_deal 139 = .ok (.putfield 375, 3) := by decide +kernel
theorem pf_X12_375 (hC : CX p s m meth c y0 b0 mL0 rt0 args) (hy0 : y0.cls = RX12) (hK : KK G s) (hP : va_P G.1 vwCl ws H) (hD : va_D A ws) (hS : va_S A H0 H locs) (q0 : Nat) {fs : List Value} {v : Value} {ws' : va_W} (he : ws[q0]? = some (a, .inr (12, fs))) (hl : 38 < fs.length) (hws : ws.set q0 (a, .inr (12, fs.set 38 v)) = ws') (hn : narrow .int v = v) (hfit : fits .int v = true) (hdg : decode b0 pc = .ok (.putfield 375, 3)) (kk : ∀ (H1 : Heap) (locs1 : List Loc), va_P G.1 vwCl ws' H1 → va_D A ws' → va_S A H0 H1 locs1 → W p l e R s m args below meth c H1 locs1 cells slots Q (F0 m (pc + 3) ls rest)) : W p l e R s m args below meth c H locs cells slots Q (F0 m pc ls (v :: .ref a :: rest)) := by
  obtain ⟨hx, hb, hr, hml, hB, hown, hlocks, hnm⟩ := hC
  rw [hy0] at hown
  subst hws
  exact va_put (ci := 12) (ty := .int) (C := RX12) (T := TX12) (N := 41) hx hb hB in_X12 tyX12 tyX12_ok nmX12 hown hK.1 hP hD hS q0 he rfl 38 (by decide) (hB _ m_1349) (fun _ h => h) rfl (by decide +kernel) hn hfit hl hdg kk
theorem dX12_deal_142 : decode cX12_deal 142 = .ok (.aload_n 0, 1) := by decide +kernel
theorem dX12_deal_143 : decode cX12_deal 143 = .ok (.iload 5, 2) := by decide +kernel
theorem dX12_deal_145 : decode cX12_deal 145 = .ok (.ifCond .eq 15, 3) := by decide +kernel
theorem dX12_deal_148 : decode cX12_deal 148 = .ok (.aload_n 0, 1) := by decide +kernel
theorem dX12_deal_149 : decode cX12_deal 149 = .ok (.aload_n 0, 1) := by decide +kernel
theorem dX12_deal_150 : decode cX12_deal 150 = .ok (.getfield 378, 3) := by decide +kernel
theorem dX12_deal_153 : decode cX12_deal 153 = .ok (.iconst 2, 1) := by decide +kernel
theorem dX12_deal_154 : decode cX12_deal 154 = .ok (.invokevirtual 88, 3) := by decide +kernel
theorem dX12_deal_157 : decode cX12_deal 157 = .ok (.goto 37, 3) := by decide +kernel
theorem dX12_deal_194 : decode cX12_deal 194 = .ok (.putfield 369, 3) := by decide +kernel
theorem pf_X12_369 (hC : CX p s m meth c y0 b0 mL0 rt0 args) (hy0 : y0.cls = RX12) (hK : KK G s) (hP : va_P G.1 vwCl ws H) (hD : va_D A ws) (hS : va_S A H0 H locs) (q0 : Nat) {fs : List Value} {v : Value} {ws' : va_W} (he : ws[q0]? = some (a, .inr (12, fs))) (hl : 39 < fs.length) (hws : ws.set q0 (a, .inr (12, fs.set 39 v)) = ws') (hn : narrow .int v = v) (hfit : fits .int v = true) (hdg : decode b0 pc = .ok (.putfield 369, 3)) (kk : ∀ (H1 : Heap) (locs1 : List Loc), va_P G.1 vwCl ws' H1 → va_D A ws' → va_S A H0 H1 locs1 → W p l e R s m args below meth c H1 locs1 cells slots Q (F0 m (pc + 3) ls rest)) : W p l e R s m args below meth c H locs cells slots Q (F0 m pc ls (v :: .ref a :: rest)) := by
  obtain ⟨hx, hb, hr, hml, hB, hown, hlocks, hnm⟩ := hC
  rw [hy0] at hown
  subst hws
  exact va_put (ci := 12) (ty := .int) (C := RX12) (T := TX12) (N := 41) hx hb hB in_X12 tyX12 tyX12_ok nmX12 hown hK.1 hP hD hS q0 he rfl 39 (by decide) (hB _ m_1350) (fun _ h => h) rfl (by decide +kernel) hn hfit hl hdg kk
theorem dX12_deal_197 : decode cX12_deal 197 = .ok (.aload_n 0, 1) := by decide +kernel
theorem dX12_deal_198 : decode cX12_deal 198 = .ok (.iconst 0, 1) := by decide +kernel
theorem dX12_deal_199 : decode cX12_deal 199 = .ok (.putfield 380, 3) := by decide +kernel
theorem dX12_deal_202 : decode cX12_deal 202 = .ok (.aload_n 0, 1) := by decide +kernel
theorem dX12_deal_203 : decode cX12_deal 203 = .ok (.iload_n 2, 1) := by decide +kernel
theorem dX12_deal_204 : decode cX12_deal 204 = .ok (.iload_n 3, 1) := by decide +kernel
theorem dX12_deal_205 : decode cX12_deal 205 = .ok (.invokevirtual 372, 3) := by decide +kernel
theorem dX12_deal_208 : decode cX12_deal 208 = .ok (.istore 7, 2) := by decide +kernel
theorem dX12_deal_210 : decode cX12_deal 210 = .ok (.aload_n 0, 1) := by decide +kernel
theorem dX12_deal_211 : decode cX12_deal 211 = .ok (.getfield 380, 3) := by decide +kernel
theorem dX12_deal_214 : decode cX12_deal 214 = .ok (.ifCond .eq 8, 3) := by decide +kernel
theorem dX12_deal_222 : decode cX12_deal 222 = .ok (.iload 7, 2) := by decide +kernel
theorem dX12_deal_224 : decode cX12_deal 224 = .ok (.ireturn, 1) := by decide +kernel
theorem dX12_deal_217 : decode cX12_deal 217 = .ok (.bipush (-15), 2) := by decide +kernel
theorem dX12_deal_219 : decode cX12_deal 219 = .ok (.goto 5, 3) := by decide +kernel
theorem dX12_deal_67 : decode cX12_deal 67 = .ok (.iconst 0, 1) := by decide +kernel
theorem dX12_deal_80 : decode cX12_deal 80 = .ok (.iconst 1, 1) := by decide +kernel
theorem dX12_deal_81 : decode cX12_deal 81 = .ok (.goto 4, 3) := by decide +kernel
theorem dX12_deal_105 : decode cX12_deal 105 = .ok (.iload 6, 2) := by decide +kernel
theorem dX12_deal_107 : decode cX12_deal 107 = .ok (.ifCond .eq 15, 3) := by decide +kernel
theorem dX12_deal_110 : decode cX12_deal 110 = .ok (.aload_n 0, 1) := by decide +kernel
theorem dX12_deal_111 : decode cX12_deal 111 = .ok (.aload_n 0, 1) := by decide +kernel
theorem dX12_deal_112 : decode cX12_deal 112 = .ok (.getfield 378, 3) := by decide +kernel
theorem dX12_deal_115 : decode cX12_deal 115 = .ok (.iconst 0, 1) := by decide +kernel
theorem dX12_deal_116 : decode cX12_deal 116 = .ok (.invokevirtual 114, 3) := by decide +kernel
theorem dX12_deal_119 : decode cX12_deal 119 = .ok (.goto 20, 3) := by decide +kernel
theorem dX12_deal_160 : decode cX12_deal 160 = .ok (.iload 6, 2) := by decide +kernel
theorem dX12_deal_162 : decode cX12_deal 162 = .ok (.ifCond .eq 15, 3) := by decide +kernel
theorem dX12_deal_165 : decode cX12_deal 165 = .ok (.aload_n 0, 1) := by decide +kernel
theorem dX12_deal_166 : decode cX12_deal 166 = .ok (.aload_n 0, 1) := by decide +kernel
theorem dX12_deal_167 : decode cX12_deal 167 = .ok (.getfield 378, 3) := by decide +kernel
theorem dX12_deal_170 : decode cX12_deal 170 = .ok (.iconst 4, 1) := by decide +kernel
theorem dX12_deal_171 : decode cX12_deal 171 = .ok (.invokevirtual 114, 3) := by decide +kernel
theorem dX12_deal_174 : decode cX12_deal 174 = .ok (.goto 20, 3) := by decide +kernel
theorem dX12_deal_122 : decode cX12_deal 122 = .ok (.aload_n 0, 1) := by decide +kernel
theorem dX12_deal_123 : decode cX12_deal 123 = .ok (.getfield 9, 3) := by decide +kernel
theorem dX12_deal_126 : decode cX12_deal 126 = .ok (.sipush 1552, 3) := by decide +kernel
theorem dX12_deal_129 : decode cX12_deal 129 = .ok (.iconst 4, 1) := by decide +kernel
theorem dX12_deal_130 : decode cX12_deal 130 = .ok (.aload_n 0, 1) := by decide +kernel
theorem dX12_deal_131 : decode cX12_deal 131 = .ok (.getfield 378, 3) := by decide +kernel
theorem dX12_deal_134 : decode cX12_deal 134 = .ok (.imul, 1) := by decide +kernel
theorem dX12_deal_135 : decode cX12_deal 135 = .ok (.iadd, 1) := by decide +kernel
theorem dX12_deal_136 : decode cX12_deal 136 = .ok (.iconst 0, 1) := by decide +kernel
theorem dX12_deal_137 : decode cX12_deal 137 = .ok (.iadd, 1) := by decide +kernel
theorem dX12_deal_138 : decode cX12_deal 138 = .ok (.iaload, 1) := by decide +kernel
theorem dX12_deal_177 : decode cX12_deal 177 = .ok (.aload_n 0, 1) := by decide +kernel
theorem dX12_deal_178 : decode cX12_deal 178 = .ok (.getfield 9, 3) := by decide +kernel
theorem dX12_deal_181 : decode cX12_deal 181 = .ok (.sipush 1552, 3) := by decide +kernel
theorem dX12_deal_184 : decode cX12_deal 184 = .ok (.iconst 4, 1) := by decide +kernel
theorem dX12_deal_185 : decode cX12_deal 185 = .ok (.aload_n 0, 1) := by decide +kernel
theorem dX12_deal_186 : decode cX12_deal 186 = .ok (.getfield 378, 3) := by decide +kernel
theorem dX12_deal_189 : decode cX12_deal 189 = .ok (.imul, 1) := by decide +kernel
theorem dX12_deal_190 : decode cX12_deal 190 = .ok (.iadd, 1) := by decide +kernel
theorem dX12_deal_191 : decode cX12_deal 191 = .ok (.iconst 2, 1) := by decide +kernel
theorem dX12_deal_192 : decode cX12_deal 192 = .ok (.iadd, 1) := by decide +kernel
theorem dX12_deal_193 : decode cX12_deal 193 = .ok (.iaload, 1) := by decide +kernel
theorem dX12_deal_19 : decode cX12_deal 19 = .ok (.iconst (-1), 1) := by decide +kernel
theorem dX12_deal_20 : decode cX12_deal 20 = .ok (.goto 8, 3) := by decide +kernel
theorem dX12_trace_0 : decode cX12_trace 0 = .ok (.iload_n 1, 1) := by decide +kernel
theorem dX12_trace_1 : decode cX12_trace 1 = .ok (.iconst 0, 1) := by decide +kernel
theorem dX12_trace_2 : decode cX12_trace 2 = .ok (.aload_n 0, 1) := by decide +kernel
theorem dX12_trace_3 : decode cX12_trace 3 = .ok (.getfield 351, 3) := by decide +kernel
theorem dX12_trace_6 : decode cX12_trace 6 = .ok (.iconst 1, 1) := by decide +kernel
theorem dX12_trace_7 : decode cX12_trace 7 = .ok (.isub, 1) := by decide +kernel
theorem dX12_trace_8 : decode cX12_trace 8 = .ok (.invokestatic 84, 3) := by decide +kernel
theorem dX12_trace_11 : decode cX12_trace 11 = .ok (.ifCond .eq 12, 3) := by decide +kernel
theorem dX12_trace_14 : decode cX12_trace 14 = .ok (.aload_n 0, 1) := by decide +kernel
theorem dX12_trace_15 : decode cX12_trace 15 = .ok (.getfield 81, 3) := by decide +kernel
theorem dX12_trace_18 : decode cX12_trace 18 = .ok (.iload_n 1, 1) := by decide +kernel
theorem dX12_trace_19 : decode cX12_trace 19 = .ok (.iaload, 1) := by decide +kernel
theorem dX12_trace_20 : decode cX12_trace 20 = .ok (.goto 5, 3) := by decide +kernel
theorem dX12_trace_25 : decode cX12_trace 25 = .ok (.ireturn, 1) := by decide +kernel
theorem dX12_trace_23 : decode cX12_trace 23 = .ok (.bipush (-3), 2) := by decide +kernel
theorem dX12_many_0 : decode cX12_many 0 = .ok (.iload_n 1, 1) := by decide +kernel
theorem dX12_many_1 : decode cX12_many 1 = .ok (.tableswitch 212 0 14 #[75, 82, 89, 96, 104, 112, 120, 128, 134, 142, 181, 189, 197, 202, 207], 75) := by decide +kernel
theorem dX12_many_76 : decode cX12_many 76 = .ok (.aload_n 0, 1) := by decide +kernel
theorem dX12_many_77 : decode cX12_many 77 = .ok (.getfield 9, 3) := by decide +kernel
theorem dX12_many_80 : decode cX12_many 80 = .ok (.iconst 0, 1) := by decide +kernel
theorem dX12_many_81 : decode cX12_many 81 = .ok (.iaload, 1) := by decide +kernel
theorem dX12_many_82 : decode cX12_many 82 = .ok (.ireturn, 1) := by decide +kernel
theorem dX12_many_83 : decode cX12_many 83 = .ok (.aload_n 0, 1) := by decide +kernel
theorem dX12_many_84 : decode cX12_many 84 = .ok (.getfield 9, 3) := by decide +kernel
theorem dX12_many_87 : decode cX12_many 87 = .ok (.iconst 4, 1) := by decide +kernel
theorem dX12_many_88 : decode cX12_many 88 = .ok (.iaload, 1) := by decide +kernel
theorem dX12_many_89 : decode cX12_many 89 = .ok (.ireturn, 1) := by decide +kernel
theorem dX12_many_90 : decode cX12_many 90 = .ok (.aload_n 0, 1) := by decide +kernel
theorem dX12_many_91 : decode cX12_many 91 = .ok (.getfield 9, 3) := by decide +kernel
theorem dX12_many_94 : decode cX12_many 94 = .ok (.iconst 5, 1) := by decide +kernel
theorem dX12_many_95 : decode cX12_many 95 = .ok (.iaload, 1) := by decide +kernel
theorem dX12_many_96 : decode cX12_many 96 = .ok (.ireturn, 1) := by decide +kernel
theorem dX12_many_97 : decode cX12_many 97 = .ok (.aload_n 0, 1) := by decide +kernel
theorem dX12_many_98 : decode cX12_many 98 = .ok (.invokevirtual 107, 3) := by decide +kernel
theorem dX12_many_101 : decode cX12_many 101 = .ok (.invokestatic 110, 3) := by decide +kernel
theorem dX12_many_104 : decode cX12_many 104 = .ok (.ireturn, 1) := by decide +kernel
theorem dX12_many_105 : decode cX12_many 105 = .ok (.aload_n 0, 1) := by decide +kernel
theorem dX12_many_106 : decode cX12_many 106 = .ok (.getfield 9, 3) := by decide +kernel
theorem dX12_many_109 : decode cX12_many 109 = .ok (.bipush 6, 2) := by decide +kernel
theorem dX12_many_111 : decode cX12_many 111 = .ok (.iaload, 1) := by decide +kernel
theorem dX12_many_112 : decode cX12_many 112 = .ok (.ireturn, 1) := by decide +kernel
theorem dX12_many_113 : decode cX12_many 113 = .ok (.aload_n 0, 1) := by decide +kernel
theorem dX12_many_114 : decode cX12_many 114 = .ok (.getfield 9, 3) := by decide +kernel
theorem dX12_many_117 : decode cX12_many 117 = .ok (.bipush 7, 2) := by decide +kernel
theorem dX12_many_119 : decode cX12_many 119 = .ok (.iaload, 1) := by decide +kernel
theorem dX12_many_120 : decode cX12_many 120 = .ok (.ireturn, 1) := by decide +kernel
theorem dX12_many_121 : decode cX12_many 121 = .ok (.aload_n 0, 1) := by decide +kernel
theorem dX12_many_122 : decode cX12_many 122 = .ok (.getfield 9, 3) := by decide +kernel
theorem dX12_many_125 : decode cX12_many 125 = .ok (.bipush 8, 2) := by decide +kernel
theorem dX12_many_127 : decode cX12_many 127 = .ok (.iaload, 1) := by decide +kernel
theorem dX12_many_128 : decode cX12_many 128 = .ok (.ireturn, 1) := by decide +kernel
theorem dX12_many_129 : decode cX12_many 129 = .ok (.aload_n 0, 1) := by decide +kernel
theorem dX12_many_130 : decode cX12_many 130 = .ok (.iconst (-1), 1) := by decide +kernel
theorem dX12_many_131 : decode cX12_many 131 = .ok (.invokevirtual 127, 3) := by decide +kernel
theorem dX12_many_134 : decode cX12_many 134 = .ok (.ireturn, 1) := by decide +kernel
theorem dX12_many_135 : decode cX12_many 135 = .ok (.aload_n 0, 1) := by decide +kernel
theorem dX12_many_136 : decode cX12_many 136 = .ok (.getfield 9, 3) := by decide +kernel
theorem dX12_many_139 : decode cX12_many 139 = .ok (.bipush 9, 2) := by decide +kernel
theorem dX12_many_141 : decode cX12_many 141 = .ok (.iaload, 1) := by decide +kernel
theorem dX12_many_142 : decode cX12_many 142 = .ok (.ireturn, 1) := by decide +kernel
theorem dX12_many_143 : decode cX12_many 143 = .ok (.iconst 0, 1) := by decide +kernel
theorem dX12_many_144 : decode cX12_many 144 = .ok (.istore_n 2, 1) := by decide +kernel
theorem dX12_many_145 : decode cX12_many 145 = .ok (.iconst 0, 1) := by decide +kernel
theorem dX12_many_146 : decode cX12_many 146 = .ok (.istore_n 3, 1) := by decide +kernel
theorem dX12_many_147 : decode cX12_many 147 = .ok (.iload_n 3, 1) := by decide +kernel
theorem dX12_many_148 : decode cX12_many 148 = .ok (.aload_n 0, 1) := by decide +kernel
theorem dX12_many_149 : decode cX12_many 149 = .ok (.getfield 9, 3) := by decide +kernel
theorem dX12_many_152 : decode cX12_many 152 = .ok (.bipush 9, 2) := by decide +kernel
theorem dX12_many_154 : decode cX12_many 154 = .ok (.iaload, 1) := by decide +kernel
theorem dX12_many_155 : decode cX12_many 155 = .ok (.if_icmp .ge 25, 3) := by decide +kernel
theorem dX12_many_180 : decode cX12_many 180 = .ok (.iload_n 2, 1) := by decide +kernel
theorem dX12_many_181 : decode cX12_many 181 = .ok (.ireturn, 1) := by decide +kernel
theorem dX12_many_158 : decode cX12_many 158 = .ok (.iload_n 2, 1) := by decide +kernel
theorem dX12_many_159 : decode cX12_many 159 = .ok (.aload_n 0, 1) := by decide +kernel
theorem dX12_many_160 : decode cX12_many 160 = .ok (.iload_n 3, 1) := by decide +kernel
theorem dX12_many_161 : decode cX12_many 161 = .ok (.invokevirtual 305, 3) := by decide +kernel
theorem dX12_many_164 : decode cX12_many 164 = .ok (.ifCond .eq 7, 3) := by decide +kernel
theorem dX12_many_167 : decode cX12_many 167 = .ok (.iconst 1, 1) := by decide +kernel
theorem dX12_many_168 : decode cX12_many 168 = .ok (.goto 4, 3) := by decide +kernel
theorem dX12_many_172 : decode cX12_many 172 = .ok (.iadd, 1) := by decide +kernel
theorem dX12_many_173 : decode cX12_many 173 = .ok (.istore_n 2, 1) := by decide +kernel
theorem dX12_many_174 : decode cX12_many 174 = .ok (.iinc 3 1, 3) := by decide +kernel
theorem dX12_many_177 : decode cX12_many 177 = .ok (.goto (-30), 3) := by decide +kernel
theorem dX12_many_171 : decode cX12_many 171 = .ok (.iconst 0, 1) := by decide +kernel
theorem dX12_many_182 : decode cX12_many 182 = .ok (.aload_n 0, 1) := by decide +kernel
theorem dX12_many_183 : decode cX12_many 183 = .ok (.getfield 9, 3) := by decide +kernel
theorem dX12_many_186 : decode cX12_many 186 = .ok (.bipush 10, 2) := by decide +kernel
theorem dX12_many_188 : decode cX12_many 188 = .ok (.iaload, 1) := by decide +kernel
theorem dX12_many_189 : decode cX12_many 189 = .ok (.ireturn, 1) := by decide +kernel
theorem dX12_many_190 : decode cX12_many 190 = .ok (.aload_n 0, 1) := by decide +kernel
theorem dX12_many_191 : decode cX12_many 191 = .ok (.getfield 9, 3) := by decide +kernel
theorem dX12_many_194 : decode cX12_many 194 = .ok (.bipush 11, 2) := by decide +kernel
theorem dX12_many_196 : decode cX12_many 196 = .ok (.iaload, 1) := by decide +kernel
theorem dX12_many_197 : decode cX12_many 197 = .ok (.ireturn, 1) := by decide +kernel
theorem dX12_many_198 : decode cX12_many 198 = .ok (.aload_n 0, 1) := by decide +kernel
theorem dX12_many_199 : decode cX12_many 199 = .ok (.getfield 327, 3) := by decide +kernel
theorem dX12_many_202 : decode cX12_many 202 = .ok (.ireturn, 1) := by decide +kernel
theorem dX12_many_203 : decode cX12_many 203 = .ok (.aload_n 0, 1) := by decide +kernel
theorem dX12_many_204 : decode cX12_many 204 = .ok (.getfield 206, 3) := by decide +kernel
theorem m_750 : Cond.fieldLink RX12 206 "InquiryBenchModel" "taped" "I" ∈ BW := List.mem_of_getElem? (i := 750) (by decide +kernel)
theorem gf_X12_206 (hC : CX p s m meth c y0 b0 mL0 rt0 args) (hy0 : y0.cls = RX12) (hK : KK G s) (hP : va_P G.1 vwCl ws H) (q0 : Nat) {fs : List Value} {v : Value} (he : ws[q0]? = some (a, .inr (12, fs))) (hv : fs[4]? = some v) (hdg : decode b0 pc = .ok (.getfield 206, 3)) (kk : W p l e R s m args below meth c H locs cells slots Q (F0 m (pc + 3) ls (v :: rest))) : W p l e R s m args below meth c H locs cells slots Q (F0 m pc ls (.ref a :: rest)) := by
  obtain ⟨hx, hb, hr, hml, hB, hown, hlocks, hnm⟩ := hC
  rw [hy0] at hown
  exact va_get (ci := 12) (C := RX12) (T := TX12) (N := 41) hx hb hB in_X12 hown hK.1 hP q0 he rfl 4 (by decide) (hB _ m_750) (fun _ h => h) hv hdg kk
theorem dX12_many_207 : decode cX12_many 207 = .ok (.ireturn, 1) := by decide +kernel
theorem dX12_many_208 : decode cX12_many 208 = .ok (.aload_n 0, 1) := by decide +kernel
theorem dX12_many_209 : decode cX12_many 209 = .ok (.getfield 351, 3) := by decide +kernel
theorem dX12_many_212 : decode cX12_many 212 = .ok (.ireturn, 1) := by decide +kernel
theorem dX12_many_213 : decode cX12_many 213 = .ok (.iconst (-1), 1) := by decide +kernel
theorem dX12_many_214 : decode cX12_many 214 = .ok (.ireturn, 1) := by decide +kernel
theorem dX12_keep_0 : decode cX12_keep 0 = .ok (.iconst 0, 1) := by decide +kernel
theorem dX12_keep_1 : decode cX12_keep 1 = .ok (.istore_n 1, 1) := by decide +kernel
theorem dX12_keep_2 : decode cX12_keep 2 = .ok (.iload_n 1, 1) := by decide +kernel
theorem dX12_keep_3 : decode cX12_keep 3 = .ok (.sipush 1662, 3) := by decide +kernel
theorem dX12_keep_6 : decode cX12_keep 6 = .ok (.if_icmp .ge 21, 3) := by decide +kernel
theorem dX12_keep_27 : decode cX12_keep 27 = .ok (.aload_n 0, 1) := by decide +kernel
theorem dX12_keep_28 : decode cX12_keep 28 = .ok (.iconst 1, 1) := by decide +kernel
theorem dX12_keep_29 : decode cX12_keep 29 = .ok (.putfield 383, 3) := by decide +kernel
theorem m_1420 : Cond.fieldLink RX12 383 "InquiryBenchModel" "hasKept" "Z" ∈ BW := List.mem_of_getElem? (i := 1420) (by decide +kernel)
theorem pf_X12_383 (hC : CX p s m meth c y0 b0 mL0 rt0 args) (hy0 : y0.cls = RX12) (hK : KK G s) (hP : va_P G.1 vwCl ws H) (hD : va_D A ws) (hS : va_S A H0 H locs) (q0 : Nat) {fs : List Value} {v : Value} {ws' : va_W} (he : ws[q0]? = some (a, .inr (12, fs))) (hl : 2 < fs.length) (hws : ws.set q0 (a, .inr (12, fs.set 2 v)) = ws') (hn : narrow .boolean v = v) (hfit : fits .boolean v = true) (hdg : decode b0 pc = .ok (.putfield 383, 3)) (kk : ∀ (H1 : Heap) (locs1 : List Loc), va_P G.1 vwCl ws' H1 → va_D A ws' → va_S A H0 H1 locs1 → W p l e R s m args below meth c H1 locs1 cells slots Q (F0 m (pc + 3) ls rest)) : W p l e R s m args below meth c H locs cells slots Q (F0 m pc ls (v :: .ref a :: rest)) := by
  obtain ⟨hx, hb, hr, hml, hB, hown, hlocks, hnm⟩ := hC
  rw [hy0] at hown
  subst hws
  exact va_put (ci := 12) (ty := .boolean) (C := RX12) (T := TX12) (N := 41) hx hb hB in_X12 tyX12 tyX12_ok nmX12 hown hK.1 hP hD hS q0 he rfl 2 (by decide) (hB _ m_1420) (fun _ h => h) rfl (by decide +kernel) hn hfit hl hdg kk
theorem dX12_keep_32 : decode cX12_keep 32 = .ok (.iconst 1, 1) := by decide +kernel
theorem dX12_keep_33 : decode cX12_keep 33 = .ok (.ireturn, 1) := by decide +kernel
theorem dX12_keep_9 : decode cX12_keep 9 = .ok (.aload_n 0, 1) := by decide +kernel
theorem dX12_keep_10 : decode cX12_keep 10 = .ok (.getfield 13, 3) := by decide +kernel
theorem m_188 : Cond.fieldLink RX12 13 "InquiryBenchModel" "kept" "[I" ∈ BW := List.mem_of_getElem? (i := 188) (by decide +kernel)
theorem gf_X12_13 (hC : CX p s m meth c y0 b0 mL0 rt0 args) (hy0 : y0.cls = RX12) (hK : KK G s) (hP : va_P G.1 vwCl ws H) (q0 : Nat) {fs : List Value} {v : Value} (he : ws[q0]? = some (a, .inr (12, fs))) (hv : fs[1]? = some v) (hdg : decode b0 pc = .ok (.getfield 13, 3)) (kk : W p l e R s m args below meth c H locs cells slots Q (F0 m (pc + 3) ls (v :: rest))) : W p l e R s m args below meth c H locs cells slots Q (F0 m pc ls (.ref a :: rest)) := by
  obtain ⟨hx, hb, hr, hml, hB, hown, hlocks, hnm⟩ := hC
  rw [hy0] at hown
  exact va_get (ci := 12) (C := RX12) (T := TX12) (N := 41) hx hb hB in_X12 hown hK.1 hP q0 he rfl 1 (by decide) (hB _ m_188) (fun _ h => h) hv hdg kk
theorem dX12_keep_13 : decode cX12_keep 13 = .ok (.iload_n 1, 1) := by decide +kernel
theorem dX12_keep_14 : decode cX12_keep 14 = .ok (.aload_n 0, 1) := by decide +kernel
theorem dX12_keep_15 : decode cX12_keep 15 = .ok (.getfield 9, 3) := by decide +kernel
theorem dX12_keep_18 : decode cX12_keep 18 = .ok (.iload_n 1, 1) := by decide +kernel
theorem dX12_keep_19 : decode cX12_keep 19 = .ok (.iaload, 1) := by decide +kernel
theorem dX12_keep_20 : decode cX12_keep 20 = .ok (.iastore, 1) := by decide +kernel
theorem dX12_keep_21 : decode cX12_keep 21 = .ok (.iinc 1 1, 3) := by decide +kernel
theorem dX12_keep_24 : decode cX12_keep 24 = .ok (.goto (-22), 3) := by decide +kernel
theorem dX12_again_0 : decode cX12_again 0 = .ok (.aload_n 0, 1) := by decide +kernel
theorem dX12_again_1 : decode cX12_again 1 = .ok (.getfield 383, 3) := by decide +kernel
theorem gf_X12_383 (hC : CX p s m meth c y0 b0 mL0 rt0 args) (hy0 : y0.cls = RX12) (hK : KK G s) (hP : va_P G.1 vwCl ws H) (q0 : Nat) {fs : List Value} {v : Value} (he : ws[q0]? = some (a, .inr (12, fs))) (hv : fs[2]? = some v) (hdg : decode b0 pc = .ok (.getfield 383, 3)) (kk : W p l e R s m args below meth c H locs cells slots Q (F0 m (pc + 3) ls (v :: rest))) : W p l e R s m args below meth c H locs cells slots Q (F0 m pc ls (.ref a :: rest)) := by
  obtain ⟨hx, hb, hr, hml, hB, hown, hlocks, hnm⟩ := hC
  rw [hy0] at hown
  exact va_get (ci := 12) (C := RX12) (T := TX12) (N := 41) hx hb hB in_X12 hown hK.1 hP q0 he rfl 2 (by decide) (hB _ m_1420) (fun _ h => h) hv hdg kk
theorem dX12_again_4 : decode cX12_again 4 = .ok (.ifCond .ne 6, 3) := by decide +kernel
theorem dX12_again_7 : decode cX12_again 7 = .ok (.bipush (-3), 2) := by decide +kernel
theorem dX12_again_9 : decode cX12_again 9 = .ok (.ireturn, 1) := by decide +kernel
theorem dX12_again_10 : decode cX12_again 10 = .ok (.iconst 0, 1) := by decide +kernel
theorem dX12_again_11 : decode cX12_again 11 = .ok (.istore_n 1, 1) := by decide +kernel
theorem dX12_again_12 : decode cX12_again 12 = .ok (.iload_n 1, 1) := by decide +kernel
theorem dX12_again_13 : decode cX12_again 13 = .ok (.sipush 1662, 3) := by decide +kernel
theorem dX12_again_16 : decode cX12_again 16 = .ok (.if_icmp .ge 21, 3) := by decide +kernel
theorem dX12_again_37 : decode cX12_again 37 = .ok (.iconst 1, 1) := by decide +kernel
theorem dX12_again_38 : decode cX12_again 38 = .ok (.ireturn, 1) := by decide +kernel
theorem dX12_again_19 : decode cX12_again 19 = .ok (.aload_n 0, 1) := by decide +kernel
theorem dX12_again_20 : decode cX12_again 20 = .ok (.getfield 9, 3) := by decide +kernel
theorem dX12_again_23 : decode cX12_again 23 = .ok (.iload_n 1, 1) := by decide +kernel
theorem dX12_again_24 : decode cX12_again 24 = .ok (.aload_n 0, 1) := by decide +kernel
theorem dX12_again_25 : decode cX12_again 25 = .ok (.getfield 13, 3) := by decide +kernel
theorem dX12_again_28 : decode cX12_again 28 = .ok (.iload_n 1, 1) := by decide +kernel
theorem dX12_again_29 : decode cX12_again 29 = .ok (.iaload, 1) := by decide +kernel
theorem dX12_again_30 : decode cX12_again 30 = .ok (.iastore, 1) := by decide +kernel
theorem dX12_again_31 : decode cX12_again 31 = .ok (.iinc 1 1, 3) := by decide +kernel
theorem dX12_again_34 : decode cX12_again 34 = .ok (.goto (-22), 3) := by decide +kernel
end WR
set_option maxHeartbeats 4000000 in
set_option maxRecDepth 100000 in
theorem m_kindOn (l : Launch) (G : GG) (h0 : Nat) (jt : Nat) (nw : Nat) (nk : Nat) (mhasKept : Int32) (nt : Nat) (mtaped : Int32) (nr : Nat) (mrowMany : Int32) (mroundOf : Int32) (mroundFrom : Int32) (mouts : Int32) (nm : Nat) (mfromHour : Int32) (mtoHour : Int32) (ns : Nat) (mfrom : Int32) (mto : Int32) (msort : Int32) (misFault : Int32) (mdeep : Int32) (mcoded : Int32) (mlines : Int32) (nl : Nat) (nc : Nat) (nF : Nat) (np : Nat) (ntr : Nat) (nb : Nat) (mbestCost : Int32) (nso : Nat) (nsi : Nat) (nit : Nat) (nsh : Nat) (nsf : Nat) (nss : Nat) (nrc : Nat) (mtraced : Int32) (mdealer : Int32) (mnumber : Int32) (mwhose : Int32) (msize : Int32) (misParted : Int32) (fnw : Nat → Int32) (fnsh : Nat → Int32) (fnsf : Nat → Int32) (hjt : jt < 4) (hN : NI fnw) : MP l G yX12_kindOn cX12_kindOn 4 (some .int) 3 [.ref h0, .int (nI jt)] [(h0, .inr (12, [.ref nw, .ref nk, .int mhasKept, .ref nt, .int mtaped, .ref nr, .int mrowMany, .int mroundOf, .int mroundFrom, .int mouts, .ref nm, .int mfromHour, .int mtoHour, .ref ns, .int mfrom, .int mto, .int msort, .int misFault, .int mdeep, .int mcoded, .int mlines, .ref nl, .ref nc, .ref nF, .ref np, .ref ntr, .ref nb, .int mbestCost, .ref nso, .ref nsi, .ref nit, .ref nsh, .ref nsf, .ref nss, .ref nrc, .int mtraced, .int mdealer, .int mnumber, .int mwhose, .int msize, .int misParted])), (nw, .inl (G.2.1, 1662, .inl fnw)), (nsh, .inl (G.2.1, 4, .inl fnsh)), (nsf, .inl (G.2.1, 4, .inl fnsf))] (fun r : Int32 => r = (-1) ∨ (r = 1 ∧ KO1 (fnsh jt) (fnsf jt) 1 12) ∨ (r = 2 ∧ KO1 (fnsh jt) (fnsf jt) 1 12) ∨ (r = 3 ∧ KO1 (fnsh jt) (fnsf jt) 1 12) ∨ (r = 4 ∧ KO1 (fnsh jt) (fnsf jt) 2 16) ∨ (r = 5 ∧ KO1 (fnsh jt) (fnsf jt) 2 16) ∨ (r = 6 ∧ KO1 (fnsh jt) (fnsf jt) 3 12)) := by
  refine MP.start (by decide +kernel) (Nat.le_of_ble_eq_true rfl) ?_
  intro p e s m below meth c ls hC hK hP hD hl
  have hl : lv_has ls 4 [(0, .ref h0), (1, .int (nI jt))] := hl
  obtain ⟨hx, hb, hr, hml, hB, hown, hlocks, hnm⟩ := id hC
  obtain ⟨kq, hkq, ekq⟩ := NI.nat hN (i := 5) (B := 12) (by decide +kernel) (by decide)
  obtain ⟨k8, hk8, ek8⟩ := NI.nat hN (i := 8) (B := 16) (by decide +kernel) (by decide)
  obtain ⟨k9, hk9, ek9⟩ := NI.nat hN (i := 9) (B := 12) (by decide +kernel) (by decide)
  refine lv_aload_n hx hb dX12_kindOn_0 rfl (lv_at hl 0 rfl) ?_
  refine gf_X12_75 hC rfl hK hP 0 rfl rfl dX12_kindOn_1 ?_
  refine lv_iload_n hx hb dX12_kindOn_4 rfl (lv_at hl 1 rfl) ?_
  refine ald hC hK hP 3 rfl (vp_in_nI (by omega) (by omega)) (k := jt) (nI_clamp (by omega)) (v := fnsf jt) rfl dX12_kindOn_5 ?_
  refine lv_topi (fun x5521 ex5521 => ?_)
  refine lv_istore_n (lv' := [(2, .int x5521), (0, .ref h0), (1, .int (nI jt))]) hx hb dX12_kindOn_6 rfl hl (by decide) rfl (fun ls hl => ?_)
  refine lv_aload_n hx hb dX12_kindOn_7 rfl (lv_at hl 1 rfl) ?_
  refine gf_X12_72 hC rfl hK hP 0 rfl rfl dX12_kindOn_8 ?_
  refine lv_iload_n hx hb dX12_kindOn_11 rfl (lv_at hl 2 rfl) ?_
  refine ald hC hK hP 2 rfl (vp_in_nI (by omega) (by omega)) (k := jt) (nI_clamp (by omega)) (v := fnsh jt) rfl dX12_kindOn_12 ?_
  refine lv_topi (fun x5522 ex5522 => ?_)
  by_cases c_13_5523 : x5522 = 1
  · refine lv_tableIn (tgt := 40) hx hb dX12_kindOn_13 (by rw [c_13_5523]; decide) (by rw [c_13_5523]; decide) (by rw [c_13_5523]; rfl) (by decide) ?_
    refine lv_aload_n hx hb dX12_kindOn_40 rfl (lv_at hl 1 rfl) ?_
    refine lv_iload_n hx hb dX12_kindOn_41 rfl (lv_at hl 0 rfl) ?_
    refine lv_iconst (v := 5) hx hb dX12_kindOn_42 (by decide) ?_
    refine pV hC hK hl hP hD (m_is l G kq h0 x5521 5 nw nk mhasKept nt mtaped nr mrowMany mroundOf mroundFrom mouts nm mfromHour mtoHour ns mfrom mto msort misFault mdeep mcoded mlines nl nc nF np ntr nb mbestCost nso nsi nit nsh nsf nss nrc mtraced mdealer mnumber mwhose msize misParted fnw (by omega) (ekq) (by omega)) si_X12_120 [0, 1] rfl rfl (by decide) rfl rfl rfl rfl rfl (Nat.le_of_ble_eq_true rfl) ⟨Nat.le_of_ble_eq_true rfl, Nat.le_of_ble_eq_true rfl⟩ ⟨by first | exact Nat.le_of_ble_eq_true rfl | exact Nat.zero_le _, by first | exact Nat.le_of_ble_eq_true rfl | exact Nat.zero_le _⟩ dX12_kindOn_43 (fun r5524 hr5524 => ?_)
    rcases hr5524 with ⟨rfl, a5525⟩ | ⟨rfl, a5525⟩
    · refine lv_if_eq (tgt := 73) hx hb dX12_kindOn_46 (by decide) (fun c9 => absurd c9 (by decide)) (fun _ => ?_)
      refine lv_aload_n hx hb dX12_kindOn_49 rfl (lv_at hl 1 rfl) ?_
      refine lv_iload_n hx hb dX12_kindOn_50 rfl (lv_at hl 0 rfl) ?_
      obtain ⟨jn5526, hjn5526, ek5526⟩ := Hs_nat (by omega) a5525
      refine eqi (x1 := nI jn5526) ek5526 ?_
      refine lv_iconst (v := 1) hx hb dX12_kindOn_51 (by decide) ?_
      refine pV hC hK hl hP hD (m_paper l G h0 jn5526 1 nw nk mhasKept nt mtaped nr mrowMany mroundOf mroundFrom mouts nm mfromHour mtoHour ns mfrom mto msort misFault mdeep mcoded mlines nl nc nF np ntr nb mbestCost nso nsi nit nsh nsf nss nrc mtraced mdealer mnumber mwhose msize misParted fnw (by omega) (by omega)) si_X12_88 [0, 1] rfl rfl (by decide) rfl rfl rfl rfl rfl (Nat.le_of_ble_eq_true rfl) ⟨Nat.le_of_ble_eq_true rfl, Nat.le_of_ble_eq_true rfl⟩ ⟨by first | exact Nat.le_of_ble_eq_true rfl | exact Nat.zero_le _, by first | exact Nat.le_of_ble_eq_true rfl | exact Nat.zero_le _⟩ dX12_kindOn_52 (fun r5527 hr5527 => ?_)
      obtain rfl := hr5527
      refine lv_iconst (v := 1) hx hb dX12_kindOn_55 (by decide) ?_
      refine lv_aload_n hx hb dX12_kindOn_56 rfl (lv_at hl 1 rfl) ?_
      refine lv_iload_n hx hb dX12_kindOn_57 rfl (lv_at hl 0 rfl) ?_
      obtain ⟨jn5529, hjn5529, ek5529⟩ := Hs_nat (by omega) a5525
      refine eqi (x1 := nI jn5529) ek5529 ?_
      refine lv_iconst (v := 0) hx hb dX12_kindOn_58 (by decide) ?_
      refine pV hC hK hl hP hD (m_paper l G h0 jn5529 0 nw nk mhasKept nt mtaped nr mrowMany mroundOf mroundFrom mouts nm mfromHour mtoHour ns mfrom mto msort misFault mdeep mcoded mlines nl nc nF np ntr nb mbestCost nso nsi nit nsh nsf nss nrc mtraced mdealer mnumber mwhose msize misParted fnw (by omega) (by omega)) si_X12_88 [0, 1] rfl rfl (by decide) rfl rfl rfl rfl rfl (Nat.le_of_ble_eq_true rfl) ⟨Nat.le_of_ble_eq_true rfl, Nat.le_of_ble_eq_true rfl⟩ ⟨by first | exact Nat.le_of_ble_eq_true rfl | exact Nat.zero_le _, by first | exact Nat.le_of_ble_eq_true rfl | exact Nat.zero_le _⟩ dX12_kindOn_59 (fun r5530 hr5530 => ?_)
      obtain rfl := hr5530
      refine lv_ishl hx hb dX12_kindOn_62 ?_
      refine lv_iconst (v := (-1)) hx hb dX12_kindOn_63 (by decide) ?_
      refine lv_ixor hx hb dX12_kindOn_64 ?_
      refine lv_iand hx hb dX12_kindOn_65 ?_
      refine lv_if_eq (tgt := 73) hx hb dX12_kindOn_66 (by decide) (fun c_66_5532 => ?_) (fun c_66_5532 => ?_)
      · refine lv_iconst (v := 0) hx hb dX12_kindOn_73 (by decide) ?_
        refine lv_istore_n (lv' := [(3, .int 0), (2, .int x5521), (0, .ref h0), (1, .int (nI jt))]) hx hb dX12_kindOn_74 rfl hl (by decide) rfl (fun ls hl => ?_)
        refine lv_aload_n hx hb dX12_kindOn_75 rfl (lv_at hl 2 rfl) ?_
        refine lv_iload_n hx hb dX12_kindOn_76 rfl (lv_at hl 1 rfl) ?_
        refine lv_iconst (v := 5) hx hb dX12_kindOn_77 (by decide) ?_
        refine pV hC hK hl hP hD (m_is l G kq h0 x5521 5 nw nk mhasKept nt mtaped nr mrowMany mroundOf mroundFrom mouts nm mfromHour mtoHour ns mfrom mto msort misFault mdeep mcoded mlines nl nc nF np ntr nb mbestCost nso nsi nit nsh nsf nss nrc mtraced mdealer mnumber mwhose msize misParted fnw (by omega) (ekq) (by omega)) si_X12_120 [0, 1] rfl rfl (by decide) rfl rfl rfl rfl rfl (Nat.le_of_ble_eq_true rfl) ⟨Nat.le_of_ble_eq_true rfl, Nat.le_of_ble_eq_true rfl⟩ ⟨by first | exact Nat.le_of_ble_eq_true rfl | exact Nat.zero_le _, by first | exact Nat.le_of_ble_eq_true rfl | exact Nat.zero_le _⟩ dX12_kindOn_78 (fun r5533 hr5533 => ?_)
        rcases hr5533 with ⟨rfl, a5534⟩ | ⟨rfl, a5534⟩
        · refine lv_if_ne (tgt := 88) hx hb dX12_kindOn_81 (by decide) (fun _ => ?_) (fun c9 => absurd c9 (by decide))
          refine lv_iload_n hx hb dX12_kindOn_88 rfl (lv_at hl 0 rfl) ?_
          refine lv_if_ne (tgt := 96) hx hb dX12_kindOn_89 (by decide) (fun c9 => absurd (by decide) c9) (fun _ => ?_)
          refine lv_iconst (v := 2) hx hb dX12_kindOn_92 (by decide) ?_
          refine lv_goto (tgt := 110) hx hb dX12_kindOn_93 (by decide) ?_
          exact RP (v := 2) hC (Or.inr (Or.inr (Or.inl (⟨rfl, KO1.mk (kk := kq) (by omega) (by omega) ex5522 ex5521 c_13_5523 a5534⟩)))) rfl dX12_kindOn_110
        · exact absurd a5525 a5534
      · refine lv_iconst (v := 1) hx hb dX12_kindOn_69 (by decide) ?_
        refine lv_goto (tgt := 74) hx hb dX12_kindOn_70 (by decide) ?_
        refine lv_istore_n (lv' := [(3, .int 1), (2, .int x5521), (0, .ref h0), (1, .int (nI jt))]) hx hb dX12_kindOn_74 rfl hl (by decide) rfl (fun ls hl => ?_)
        refine lv_aload_n hx hb dX12_kindOn_75 rfl (lv_at hl 2 rfl) ?_
        refine lv_iload_n hx hb dX12_kindOn_76 rfl (lv_at hl 1 rfl) ?_
        refine lv_iconst (v := 5) hx hb dX12_kindOn_77 (by decide) ?_
        refine pV hC hK hl hP hD (m_is l G kq h0 x5521 5 nw nk mhasKept nt mtaped nr mrowMany mroundOf mroundFrom mouts nm mfromHour mtoHour ns mfrom mto msort misFault mdeep mcoded mlines nl nc nF np ntr nb mbestCost nso nsi nit nsh nsf nss nrc mtraced mdealer mnumber mwhose msize misParted fnw (by omega) (ekq) (by omega)) si_X12_120 [0, 1] rfl rfl (by decide) rfl rfl rfl rfl rfl (Nat.le_of_ble_eq_true rfl) ⟨Nat.le_of_ble_eq_true rfl, Nat.le_of_ble_eq_true rfl⟩ ⟨by first | exact Nat.le_of_ble_eq_true rfl | exact Nat.zero_le _, by first | exact Nat.le_of_ble_eq_true rfl | exact Nat.zero_le _⟩ dX12_kindOn_78 (fun r5535 hr5535 => ?_)
        rcases hr5535 with ⟨rfl, a5536⟩ | ⟨rfl, a5536⟩
        · refine lv_if_ne (tgt := 88) hx hb dX12_kindOn_81 (by decide) (fun _ => ?_) (fun c9 => absurd c9 (by decide))
          refine lv_iload_n hx hb dX12_kindOn_88 rfl (lv_at hl 0 rfl) ?_
          refine lv_if_ne (tgt := 96) hx hb dX12_kindOn_89 (by decide) (fun _ => ?_) (fun c9 => absurd c9 (by decide))
          refine lv_aload_n hx hb dX12_kindOn_96 rfl (lv_at hl 2 rfl) ?_
          refine lv_iload_n hx hb dX12_kindOn_97 rfl (lv_at hl 1 rfl) ?_
          obtain ⟨jn5537, hjn5537, ek5537⟩ := Hs_nat (by omega) a5536
          refine eqi (x1 := nI jn5537) ek5537 ?_
          refine lv_iconst (v := 3) hx hb dX12_kindOn_98 (by decide) ?_
          refine pV hC hK hl hP hD (m_paper l G h0 jn5537 3 nw nk mhasKept nt mtaped nr mrowMany mroundOf mroundFrom mouts nm mfromHour mtoHour ns mfrom mto msort misFault mdeep mcoded mlines nl nc nF np ntr nb mbestCost nso nsi nit nsh nsf nss nrc mtraced mdealer mnumber mwhose msize misParted fnw (by omega) (by omega)) si_X12_88 [0, 1] rfl rfl (by decide) rfl rfl rfl rfl rfl (Nat.le_of_ble_eq_true rfl) ⟨Nat.le_of_ble_eq_true rfl, Nat.le_of_ble_eq_true rfl⟩ ⟨by first | exact Nat.le_of_ble_eq_true rfl | exact Nat.zero_le _, by first | exact Nat.le_of_ble_eq_true rfl | exact Nat.zero_le _⟩ dX12_kindOn_99 (fun r5538 hr5538 => ?_)
          obtain rfl := hr5538
          refine lv_if_le (tgt := 109) hx hb dX12_kindOn_102 (by decide) (fun c_102_5540 => ?_) (fun c_102_5540 => ?_)
          · refine lv_iconst (v := 1) hx hb dX12_kindOn_109 (by decide) ?_
            exact RP (v := 1) hC (Or.inr (Or.inl (⟨rfl, KO1.mk (kk := kq) (by omega) (by omega) ex5522 ex5521 c_13_5523 a5536⟩))) rfl dX12_kindOn_110
          · refine lv_iconst (v := 3) hx hb dX12_kindOn_105 (by decide) ?_
            refine lv_goto (tgt := 110) hx hb dX12_kindOn_106 (by decide) ?_
            exact RP (v := 3) hC (Or.inr (Or.inr (Or.inr (Or.inl (⟨rfl, KO1.mk (kk := kq) (by omega) (by omega) ex5522 ex5521 c_13_5523 a5536⟩))))) rfl dX12_kindOn_110
        · exact absurd a5525 a5536
    · refine lv_if_eq (tgt := 73) hx hb dX12_kindOn_46 (by decide) (fun _ => ?_) (fun c9 => absurd (by decide) c9)
      refine lv_iconst (v := 0) hx hb dX12_kindOn_73 (by decide) ?_
      refine lv_istore_n (lv' := [(3, .int 0), (2, .int x5521), (0, .ref h0), (1, .int (nI jt))]) hx hb dX12_kindOn_74 rfl hl (by decide) rfl (fun ls hl => ?_)
      refine lv_aload_n hx hb dX12_kindOn_75 rfl (lv_at hl 2 rfl) ?_
      refine lv_iload_n hx hb dX12_kindOn_76 rfl (lv_at hl 1 rfl) ?_
      refine lv_iconst (v := 5) hx hb dX12_kindOn_77 (by decide) ?_
      refine pV hC hK hl hP hD (m_is l G kq h0 x5521 5 nw nk mhasKept nt mtaped nr mrowMany mroundOf mroundFrom mouts nm mfromHour mtoHour ns mfrom mto msort misFault mdeep mcoded mlines nl nc nF np ntr nb mbestCost nso nsi nit nsh nsf nss nrc mtraced mdealer mnumber mwhose msize misParted fnw (by omega) (ekq) (by omega)) si_X12_120 [0, 1] rfl rfl (by decide) rfl rfl rfl rfl rfl (Nat.le_of_ble_eq_true rfl) ⟨Nat.le_of_ble_eq_true rfl, Nat.le_of_ble_eq_true rfl⟩ ⟨by first | exact Nat.le_of_ble_eq_true rfl | exact Nat.zero_le _, by first | exact Nat.le_of_ble_eq_true rfl | exact Nat.zero_le _⟩ dX12_kindOn_78 (fun r5541 hr5541 => ?_)
      rcases hr5541 with ⟨rfl, a5542⟩ | ⟨rfl, a5542⟩
      · exact absurd a5542 a5525
      · refine lv_if_ne (tgt := 88) hx hb dX12_kindOn_81 (by decide) (fun c9 => absurd (by decide) c9) (fun _ => ?_)
        refine lv_iconst (v := (-1)) hx hb dX12_kindOn_84 (by decide) ?_
        refine lv_goto (tgt := 110) hx hb dX12_kindOn_85 (by decide) ?_
        exact RP (v := (-1)) hC (Or.inl (rfl)) rfl dX12_kindOn_110
  by_cases c_13_5543 : x5522 = 2
  · refine lv_tableIn (tgt := 111) hx hb dX12_kindOn_13 (by rw [c_13_5543]; decide) (by rw [c_13_5543]; decide) (by rw [c_13_5543]; rfl) (by decide) ?_
    refine lv_aload_n hx hb dX12_kindOn_111 rfl (lv_at hl 1 rfl) ?_
    refine lv_iload_n hx hb dX12_kindOn_112 rfl (lv_at hl 0 rfl) ?_
    refine lv_bipush (v := 8) hx hb dX12_kindOn_113 (by decide) ?_
    refine pV hC hK hl hP hD (m_is l G k8 h0 x5521 8 nw nk mhasKept nt mtaped nr mrowMany mroundOf mroundFrom mouts nm mfromHour mtoHour ns mfrom mto msort misFault mdeep mcoded mlines nl nc nF np ntr nb mbestCost nso nsi nit nsh nsf nss nrc mtraced mdealer mnumber mwhose msize misParted fnw (by omega) (ek8) (by omega)) si_X12_120 [0, 1] rfl rfl (by decide) rfl rfl rfl rfl rfl (Nat.le_of_ble_eq_true rfl) ⟨Nat.le_of_ble_eq_true rfl, Nat.le_of_ble_eq_true rfl⟩ ⟨by first | exact Nat.le_of_ble_eq_true rfl | exact Nat.zero_le _, by first | exact Nat.le_of_ble_eq_true rfl | exact Nat.zero_le _⟩ dX12_kindOn_115 (fun r5544 hr5544 => ?_)
    rcases hr5544 with ⟨rfl, a5545⟩ | ⟨rfl, a5545⟩
    · refine lv_if_ne (tgt := 125) hx hb dX12_kindOn_118 (by decide) (fun _ => ?_) (fun c9 => absurd c9 (by decide))
      refine lv_aload_n hx hb dX12_kindOn_125 rfl (lv_at hl 1 rfl) ?_
      refine lv_iload_n hx hb dX12_kindOn_126 rfl (lv_at hl 0 rfl) ?_
      obtain ⟨jn5546, hjn5546, ek5546⟩ := Hs_nat (by omega) a5545
      refine eqi (x1 := nI jn5546) ek5546 ?_
      refine lv_bipush (v := 6) hx hb dX12_kindOn_127 (by decide) ?_
      refine pV hC hK hl hP hD (m_saying l G h0 jn5546 6 nw nk mhasKept nt mtaped nr mrowMany mroundOf mroundFrom mouts nm mfromHour mtoHour ns mfrom mto msort misFault mdeep mcoded mlines nl nc nF np ntr nb mbestCost nso nsi nit nsh nsf nss nrc mtraced mdealer mnumber mwhose msize misParted fnw (by omega) (by omega)) si_X12_114 [0, 1] rfl rfl (by decide) rfl rfl rfl rfl rfl (Nat.le_of_ble_eq_true rfl) ⟨Nat.le_of_ble_eq_true rfl, Nat.le_of_ble_eq_true rfl⟩ ⟨by first | exact Nat.le_of_ble_eq_true rfl | exact Nat.zero_le _, by first | exact Nat.le_of_ble_eq_true rfl | exact Nat.zero_le _⟩ dX12_kindOn_129 (fun r5547 hr5547 => ?_)
      obtain rfl := hr5547
      refine lv_if_ge (tgt := 139) hx hb dX12_kindOn_132 (by decide) (fun c_132_5549 => ?_) (fun c_132_5549 => ?_)
      · refine lv_iconst (v := 4) hx hb dX12_kindOn_139 (by decide) ?_
        exact RP (v := 4) hC (Or.inr (Or.inr (Or.inr (Or.inr (Or.inl (⟨rfl, KO1.mk (kk := k8) (by omega) (by omega) ex5522 ex5521 c_13_5543 a5545⟩)))))) rfl dX12_kindOn_140
      · refine lv_iconst (v := 5) hx hb dX12_kindOn_135 (by decide) ?_
        refine lv_goto (tgt := 140) hx hb dX12_kindOn_136 (by decide) ?_
        exact RP (v := 5) hC (Or.inr (Or.inr (Or.inr (Or.inr (Or.inr (Or.inl (⟨rfl, KO1.mk (kk := k8) (by omega) (by omega) ex5522 ex5521 c_13_5543 a5545⟩))))))) rfl dX12_kindOn_140
    · refine lv_if_ne (tgt := 125) hx hb dX12_kindOn_118 (by decide) (fun c9 => absurd (by decide) c9) (fun _ => ?_)
      refine lv_iconst (v := (-1)) hx hb dX12_kindOn_121 (by decide) ?_
      refine lv_goto (tgt := 140) hx hb dX12_kindOn_122 (by decide) ?_
      exact RP (v := (-1)) hC (Or.inl (rfl)) rfl dX12_kindOn_140
  by_cases c_13_5550 : x5522 = 3
  · refine lv_tableIn (tgt := 141) hx hb dX12_kindOn_13 (by rw [c_13_5550]; decide) (by rw [c_13_5550]; decide) (by rw [c_13_5550]; rfl) (by decide) ?_
    refine lv_aload_n hx hb dX12_kindOn_141 rfl (lv_at hl 1 rfl) ?_
    refine lv_iload_n hx hb dX12_kindOn_142 rfl (lv_at hl 0 rfl) ?_
    refine lv_bipush (v := 9) hx hb dX12_kindOn_143 (by decide) ?_
    refine pV hC hK hl hP hD (m_is l G k9 h0 x5521 9 nw nk mhasKept nt mtaped nr mrowMany mroundOf mroundFrom mouts nm mfromHour mtoHour ns mfrom mto msort misFault mdeep mcoded mlines nl nc nF np ntr nb mbestCost nso nsi nit nsh nsf nss nrc mtraced mdealer mnumber mwhose msize misParted fnw (by omega) (ek9) (by omega)) si_X12_120 [0, 1] rfl rfl (by decide) rfl rfl rfl rfl rfl (Nat.le_of_ble_eq_true rfl) ⟨Nat.le_of_ble_eq_true rfl, Nat.le_of_ble_eq_true rfl⟩ ⟨by first | exact Nat.le_of_ble_eq_true rfl | exact Nat.zero_le _, by first | exact Nat.le_of_ble_eq_true rfl | exact Nat.zero_le _⟩ dX12_kindOn_145 (fun r5551 hr5551 => ?_)
    rcases hr5551 with ⟨rfl, a5552⟩ | ⟨rfl, a5552⟩
    · refine lv_if_eq (tgt := 156) hx hb dX12_kindOn_148 (by decide) (fun c9 => absurd c9 (by decide)) (fun _ => ?_)
      refine lv_bipush (v := 6) hx hb dX12_kindOn_151 (by decide) ?_
      refine lv_goto (tgt := 157) hx hb dX12_kindOn_153 (by decide) ?_
      exact RP (v := 6) hC (Or.inr (Or.inr (Or.inr (Or.inr (Or.inr (Or.inr (⟨rfl, KO1.mk (kk := k9) (by omega) (by omega) ex5522 ex5521 c_13_5550 a5552⟩))))))) rfl dX12_kindOn_157
    · refine lv_if_eq (tgt := 156) hx hb dX12_kindOn_148 (by decide) (fun _ => ?_) (fun c9 => absurd (by decide) c9)
      refine lv_iconst (v := (-1)) hx hb dX12_kindOn_156 (by decide) ?_
      exact RP (v := (-1)) hC (Or.inl (rfl)) rfl dX12_kindOn_157
  refine lv_tableOut (tgt := 158) hx hb dX12_kindOn_13 (by have q9 := sw_1_3 (x := x5522); simp only [c_13_5523, c_13_5543, c_13_5550, not_false_eq_true, true_implies] at q9; exact q9) (by decide) ?_
  refine lv_iconst (v := (-1)) hx hb dX12_kindOn_158 (by decide) ?_
  exact RP (v := (-1)) hC (Or.inl (rfl)) rfl dX12_kindOn_159
set_option maxHeartbeats 4000000 in
set_option maxRecDepth 100000 in
theorem m_above0 (l : Launch) (G : GG) : MP l G yX12_above cX12_above 1 (some .int) 1 [.int 0] [] (fun r : Int32 => r = (-1)) := by
  refine MP.start (by decide +kernel) (Nat.le_of_ble_eq_true rfl) ?_
  intro p e s m below meth c ls hC hK hP hD hl
  have hl : lv_has ls 1 [(0, .int 0)] := hl
  obtain ⟨hx, hb, hr, hml, hB, hown, hlocks, hnm⟩ := id hC
  refine lv_iload_n hx hb dX12_above_0 rfl (lv_at hl 0 rfl) ?_
  refine lv_iconst (v := 3) hx hb dX12_above_1 (by decide) ?_
  refine lv_icmp_ne (tgt := 9) hx hb dX12_above_2 (by decide) (fun _ => ?_) (fun c9 => absurd c9 (by decide))
  refine lv_iload_n hx hb dX12_above_9 rfl (lv_at hl 0 rfl) ?_
  refine lv_iconst (v := 5) hx hb dX12_above_10 (by decide) ?_
  refine lv_icmp_ne (tgt := 18) hx hb dX12_above_11 (by decide) (fun _ => ?_) (fun c9 => absurd c9 (by decide))
  refine lv_iload_n hx hb dX12_above_18 rfl (lv_at hl 0 rfl) ?_
  refine lv_if_ne (tgt := 26) hx hb dX12_above_19 (by decide) (fun c9 => absurd (by decide) c9) (fun _ => ?_)
  refine lv_iconst (v := (-1)) hx hb dX12_above_22 (by decide) ?_
  refine lv_goto (tgt := 27) hx hb dX12_above_23 (by decide) ?_
  exact RP (v := (-1)) hC (rfl) rfl dX12_above_27
set_option maxHeartbeats 4000000 in
set_option maxRecDepth 100000 in
theorem m_above1 (l : Launch) (G : GG) : MP l G yX12_above cX12_above 1 (some .int) 1 [.int 1] [] (fun r : Int32 => r = 0) := by
  refine MP.start (by decide +kernel) (Nat.le_of_ble_eq_true rfl) ?_
  intro p e s m below meth c ls hC hK hP hD hl
  have hl : lv_has ls 1 [(0, .int 1)] := hl
  obtain ⟨hx, hb, hr, hml, hB, hown, hlocks, hnm⟩ := id hC
  refine lv_iload_n hx hb dX12_above_0 rfl (lv_at hl 0 rfl) ?_
  refine lv_iconst (v := 3) hx hb dX12_above_1 (by decide) ?_
  refine lv_icmp_ne (tgt := 9) hx hb dX12_above_2 (by decide) (fun _ => ?_) (fun c9 => absurd c9 (by decide))
  refine lv_iload_n hx hb dX12_above_9 rfl (lv_at hl 0 rfl) ?_
  refine lv_iconst (v := 5) hx hb dX12_above_10 (by decide) ?_
  refine lv_icmp_ne (tgt := 18) hx hb dX12_above_11 (by decide) (fun _ => ?_) (fun c9 => absurd c9 (by decide))
  refine lv_iload_n hx hb dX12_above_18 rfl (lv_at hl 0 rfl) ?_
  refine lv_if_ne (tgt := 26) hx hb dX12_above_19 (by decide) (fun _ => ?_) (fun c9 => absurd c9 (by decide))
  refine lv_iconst (v := 0) hx hb dX12_above_26 (by decide) ?_
  exact RP (v := 0) hC (rfl) rfl dX12_above_27
set_option maxHeartbeats 4000000 in
set_option maxRecDepth 100000 in
theorem m_above2 (l : Launch) (G : GG) : MP l G yX12_above cX12_above 1 (some .int) 1 [.int 2] [] (fun r : Int32 => r = 0) := by
  refine MP.start (by decide +kernel) (Nat.le_of_ble_eq_true rfl) ?_
  intro p e s m below meth c ls hC hK hP hD hl
  have hl : lv_has ls 1 [(0, .int 2)] := hl
  obtain ⟨hx, hb, hr, hml, hB, hown, hlocks, hnm⟩ := id hC
  refine lv_iload_n hx hb dX12_above_0 rfl (lv_at hl 0 rfl) ?_
  refine lv_iconst (v := 3) hx hb dX12_above_1 (by decide) ?_
  refine lv_icmp_ne (tgt := 9) hx hb dX12_above_2 (by decide) (fun _ => ?_) (fun c9 => absurd c9 (by decide))
  refine lv_iload_n hx hb dX12_above_9 rfl (lv_at hl 0 rfl) ?_
  refine lv_iconst (v := 5) hx hb dX12_above_10 (by decide) ?_
  refine lv_icmp_ne (tgt := 18) hx hb dX12_above_11 (by decide) (fun _ => ?_) (fun c9 => absurd c9 (by decide))
  refine lv_iload_n hx hb dX12_above_18 rfl (lv_at hl 0 rfl) ?_
  refine lv_if_ne (tgt := 26) hx hb dX12_above_19 (by decide) (fun _ => ?_) (fun c9 => absurd c9 (by decide))
  refine lv_iconst (v := 0) hx hb dX12_above_26 (by decide) ?_
  exact RP (v := 0) hC (rfl) rfl dX12_above_27
set_option maxHeartbeats 4000000 in
set_option maxRecDepth 100000 in
theorem m_above3 (l : Launch) (G : GG) : MP l G yX12_above cX12_above 1 (some .int) 1 [.int 3] [] (fun r : Int32 => r = 1) := by
  refine MP.start (by decide +kernel) (Nat.le_of_ble_eq_true rfl) ?_
  intro p e s m below meth c ls hC hK hP hD hl
  have hl : lv_has ls 1 [(0, .int 3)] := hl
  obtain ⟨hx, hb, hr, hml, hB, hown, hlocks, hnm⟩ := id hC
  refine lv_iload_n hx hb dX12_above_0 rfl (lv_at hl 0 rfl) ?_
  refine lv_iconst (v := 3) hx hb dX12_above_1 (by decide) ?_
  refine lv_icmp_ne (tgt := 9) hx hb dX12_above_2 (by decide) (fun c9 => absurd (by decide) c9) (fun _ => ?_)
  refine lv_iconst (v := 1) hx hb dX12_above_5 (by decide) ?_
  refine lv_goto (tgt := 27) hx hb dX12_above_6 (by decide) ?_
  exact RP (v := 1) hC (rfl) rfl dX12_above_27
set_option maxHeartbeats 4000000 in
set_option maxRecDepth 100000 in
theorem m_above4 (l : Launch) (G : GG) : MP l G yX12_above cX12_above 1 (some .int) 1 [.int 4] [] (fun r : Int32 => r = 0) := by
  refine MP.start (by decide +kernel) (Nat.le_of_ble_eq_true rfl) ?_
  intro p e s m below meth c ls hC hK hP hD hl
  have hl : lv_has ls 1 [(0, .int 4)] := hl
  obtain ⟨hx, hb, hr, hml, hB, hown, hlocks, hnm⟩ := id hC
  refine lv_iload_n hx hb dX12_above_0 rfl (lv_at hl 0 rfl) ?_
  refine lv_iconst (v := 3) hx hb dX12_above_1 (by decide) ?_
  refine lv_icmp_ne (tgt := 9) hx hb dX12_above_2 (by decide) (fun _ => ?_) (fun c9 => absurd c9 (by decide))
  refine lv_iload_n hx hb dX12_above_9 rfl (lv_at hl 0 rfl) ?_
  refine lv_iconst (v := 5) hx hb dX12_above_10 (by decide) ?_
  refine lv_icmp_ne (tgt := 18) hx hb dX12_above_11 (by decide) (fun _ => ?_) (fun c9 => absurd c9 (by decide))
  refine lv_iload_n hx hb dX12_above_18 rfl (lv_at hl 0 rfl) ?_
  refine lv_if_ne (tgt := 26) hx hb dX12_above_19 (by decide) (fun _ => ?_) (fun c9 => absurd c9 (by decide))
  refine lv_iconst (v := 0) hx hb dX12_above_26 (by decide) ?_
  exact RP (v := 0) hC (rfl) rfl dX12_above_27
set_option maxHeartbeats 4000000 in
set_option maxRecDepth 100000 in
theorem m_above5 (l : Launch) (G : GG) : MP l G yX12_above cX12_above 1 (some .int) 1 [.int 5] [] (fun r : Int32 => r = 4) := by
  refine MP.start (by decide +kernel) (Nat.le_of_ble_eq_true rfl) ?_
  intro p e s m below meth c ls hC hK hP hD hl
  have hl : lv_has ls 1 [(0, .int 5)] := hl
  obtain ⟨hx, hb, hr, hml, hB, hown, hlocks, hnm⟩ := id hC
  refine lv_iload_n hx hb dX12_above_0 rfl (lv_at hl 0 rfl) ?_
  refine lv_iconst (v := 3) hx hb dX12_above_1 (by decide) ?_
  refine lv_icmp_ne (tgt := 9) hx hb dX12_above_2 (by decide) (fun _ => ?_) (fun c9 => absurd c9 (by decide))
  refine lv_iload_n hx hb dX12_above_9 rfl (lv_at hl 0 rfl) ?_
  refine lv_iconst (v := 5) hx hb dX12_above_10 (by decide) ?_
  refine lv_icmp_ne (tgt := 18) hx hb dX12_above_11 (by decide) (fun c9 => absurd (by decide) c9) (fun _ => ?_)
  refine lv_iconst (v := 4) hx hb dX12_above_14 (by decide) ?_
  refine lv_goto (tgt := 27) hx hb dX12_above_15 (by decide) ?_
  exact RP (v := 4) hC (rfl) rfl dX12_above_27
set_option maxHeartbeats 4000000 in
set_option maxRecDepth 100000 in
theorem m_above6 (l : Launch) (G : GG) : MP l G yX12_above cX12_above 1 (some .int) 1 [.int 6] [] (fun r : Int32 => r = 0) := by
  refine MP.start (by decide +kernel) (Nat.le_of_ble_eq_true rfl) ?_
  intro p e s m below meth c ls hC hK hP hD hl
  have hl : lv_has ls 1 [(0, .int 6)] := hl
  obtain ⟨hx, hb, hr, hml, hB, hown, hlocks, hnm⟩ := id hC
  refine lv_iload_n hx hb dX12_above_0 rfl (lv_at hl 0 rfl) ?_
  refine lv_iconst (v := 3) hx hb dX12_above_1 (by decide) ?_
  refine lv_icmp_ne (tgt := 9) hx hb dX12_above_2 (by decide) (fun _ => ?_) (fun c9 => absurd c9 (by decide))
  refine lv_iload_n hx hb dX12_above_9 rfl (lv_at hl 0 rfl) ?_
  refine lv_iconst (v := 5) hx hb dX12_above_10 (by decide) ?_
  refine lv_icmp_ne (tgt := 18) hx hb dX12_above_11 (by decide) (fun _ => ?_) (fun c9 => absurd c9 (by decide))
  refine lv_iload_n hx hb dX12_above_18 rfl (lv_at hl 0 rfl) ?_
  refine lv_if_ne (tgt := 26) hx hb dX12_above_19 (by decide) (fun _ => ?_) (fun c9 => absurd c9 (by decide))
  refine lv_iconst (v := 0) hx hb dX12_above_26 (by decide) ?_
  exact RP (v := 0) hC (rfl) rfl dX12_above_27
set_option maxHeartbeats 4000000 in
set_option maxRecDepth 100000 in
theorem m_hasOwn00 (l : Launch) (G : GG) : MP l G yX12_hasOwn cX12_hasOwn 2 (some .boolean) 1 [.int 0, .int 0] [] (fun r : Int32 => r = 1) := by
  refine MP.start (by decide +kernel) (Nat.le_of_ble_eq_true rfl) ?_
  intro p e s m below meth c ls hC hK hP hD hl
  have hl : lv_has ls 2 [(0, .int 0), (1, .int 0)] := hl
  obtain ⟨hx, hb, hr, hml, hB, hown, hlocks, hnm⟩ := id hC
  refine lv_iload_n hx hb dX12_hasOwn_0 rfl (lv_at hl 0 rfl) ?_
  refine lv_tableIn (tgt := 40) hx hb dX12_hasOwn_1 (by decide) (by decide) rfl (by decide) ?_
  refine lv_iconst (v := 1) hx hb dX12_hasOwn_40 (by decide) ?_
  exact RP (v := 1) hC (rfl) (by decide +kernel) dX12_hasOwn_41
set_option maxHeartbeats 4000000 in
set_option maxRecDepth 100000 in
theorem m_hasOwn01 (l : Launch) (G : GG) : MP l G yX12_hasOwn cX12_hasOwn 2 (some .boolean) 1 [.int 0, .int 1] [] (fun r : Int32 => r = 1) := by
  refine MP.start (by decide +kernel) (Nat.le_of_ble_eq_true rfl) ?_
  intro p e s m below meth c ls hC hK hP hD hl
  have hl : lv_has ls 2 [(0, .int 0), (1, .int 1)] := hl
  obtain ⟨hx, hb, hr, hml, hB, hown, hlocks, hnm⟩ := id hC
  refine lv_iload_n hx hb dX12_hasOwn_0 rfl (lv_at hl 0 rfl) ?_
  refine lv_tableIn (tgt := 40) hx hb dX12_hasOwn_1 (by decide) (by decide) rfl (by decide) ?_
  refine lv_iconst (v := 1) hx hb dX12_hasOwn_40 (by decide) ?_
  exact RP (v := 1) hC (rfl) (by decide +kernel) dX12_hasOwn_41
set_option maxHeartbeats 4000000 in
set_option maxRecDepth 100000 in
theorem m_hasOwn02 (l : Launch) (G : GG) : MP l G yX12_hasOwn cX12_hasOwn 2 (some .boolean) 1 [.int 0, .int 2] [] (fun r : Int32 => r = 1) := by
  refine MP.start (by decide +kernel) (Nat.le_of_ble_eq_true rfl) ?_
  intro p e s m below meth c ls hC hK hP hD hl
  have hl : lv_has ls 2 [(0, .int 0), (1, .int 2)] := hl
  obtain ⟨hx, hb, hr, hml, hB, hown, hlocks, hnm⟩ := id hC
  refine lv_iload_n hx hb dX12_hasOwn_0 rfl (lv_at hl 0 rfl) ?_
  refine lv_tableIn (tgt := 40) hx hb dX12_hasOwn_1 (by decide) (by decide) rfl (by decide) ?_
  refine lv_iconst (v := 1) hx hb dX12_hasOwn_40 (by decide) ?_
  exact RP (v := 1) hC (rfl) (by decide +kernel) dX12_hasOwn_41
set_option maxHeartbeats 4000000 in
set_option maxRecDepth 100000 in
theorem m_hasOwn03 (l : Launch) (G : GG) : MP l G yX12_hasOwn cX12_hasOwn 2 (some .boolean) 1 [.int 0, .int 3] [] (fun r : Int32 => r = 1) := by
  refine MP.start (by decide +kernel) (Nat.le_of_ble_eq_true rfl) ?_
  intro p e s m below meth c ls hC hK hP hD hl
  have hl : lv_has ls 2 [(0, .int 0), (1, .int 3)] := hl
  obtain ⟨hx, hb, hr, hml, hB, hown, hlocks, hnm⟩ := id hC
  refine lv_iload_n hx hb dX12_hasOwn_0 rfl (lv_at hl 0 rfl) ?_
  refine lv_tableIn (tgt := 40) hx hb dX12_hasOwn_1 (by decide) (by decide) rfl (by decide) ?_
  refine lv_iconst (v := 1) hx hb dX12_hasOwn_40 (by decide) ?_
  exact RP (v := 1) hC (rfl) (by decide +kernel) dX12_hasOwn_41
set_option maxHeartbeats 4000000 in
set_option maxRecDepth 100000 in
theorem m_hasOwn10 (l : Launch) (G : GG) : MP l G yX12_hasOwn cX12_hasOwn 2 (some .boolean) 1 [.int 1, .int 0] [] (fun r : Int32 => r = 0) := by
  refine MP.start (by decide +kernel) (Nat.le_of_ble_eq_true rfl) ?_
  intro p e s m below meth c ls hC hK hP hD hl
  have hl : lv_has ls 2 [(0, .int 1), (1, .int 0)] := hl
  obtain ⟨hx, hb, hr, hml, hB, hown, hlocks, hnm⟩ := id hC
  refine lv_iload_n hx hb dX12_hasOwn_0 rfl (lv_at hl 0 rfl) ?_
  refine lv_tableIn (tgt := 42) hx hb dX12_hasOwn_1 (by decide) (by decide) rfl (by decide) ?_
  refine lv_iload_n hx hb dX12_hasOwn_42 rfl (lv_at hl 1 rfl) ?_
  refine lv_iconst (v := 1) hx hb dX12_hasOwn_43 (by decide) ?_
  refine lv_icmp_ne (tgt := 51) hx hb dX12_hasOwn_44 (by decide) (fun _ => ?_) (fun c9 => absurd c9 (by decide))
  refine lv_iconst (v := 0) hx hb dX12_hasOwn_51 (by decide) ?_
  exact RP (v := 0) hC (rfl) (by decide +kernel) dX12_hasOwn_52
set_option maxHeartbeats 4000000 in
set_option maxRecDepth 100000 in
theorem m_hasOwn11 (l : Launch) (G : GG) : MP l G yX12_hasOwn cX12_hasOwn 2 (some .boolean) 1 [.int 1, .int 1] [] (fun r : Int32 => r = 1) := by
  refine MP.start (by decide +kernel) (Nat.le_of_ble_eq_true rfl) ?_
  intro p e s m below meth c ls hC hK hP hD hl
  have hl : lv_has ls 2 [(0, .int 1), (1, .int 1)] := hl
  obtain ⟨hx, hb, hr, hml, hB, hown, hlocks, hnm⟩ := id hC
  refine lv_iload_n hx hb dX12_hasOwn_0 rfl (lv_at hl 0 rfl) ?_
  refine lv_tableIn (tgt := 42) hx hb dX12_hasOwn_1 (by decide) (by decide) rfl (by decide) ?_
  refine lv_iload_n hx hb dX12_hasOwn_42 rfl (lv_at hl 1 rfl) ?_
  refine lv_iconst (v := 1) hx hb dX12_hasOwn_43 (by decide) ?_
  refine lv_icmp_ne (tgt := 51) hx hb dX12_hasOwn_44 (by decide) (fun c9 => absurd (by decide) c9) (fun _ => ?_)
  refine lv_iconst (v := 1) hx hb dX12_hasOwn_47 (by decide) ?_
  refine lv_goto (tgt := 52) hx hb dX12_hasOwn_48 (by decide) ?_
  exact RP (v := 1) hC (rfl) (by decide +kernel) dX12_hasOwn_52
set_option maxHeartbeats 4000000 in
set_option maxRecDepth 100000 in
theorem m_hasOwn12 (l : Launch) (G : GG) : MP l G yX12_hasOwn cX12_hasOwn 2 (some .boolean) 1 [.int 1, .int 2] [] (fun r : Int32 => r = 0) := by
  refine MP.start (by decide +kernel) (Nat.le_of_ble_eq_true rfl) ?_
  intro p e s m below meth c ls hC hK hP hD hl
  have hl : lv_has ls 2 [(0, .int 1), (1, .int 2)] := hl
  obtain ⟨hx, hb, hr, hml, hB, hown, hlocks, hnm⟩ := id hC
  refine lv_iload_n hx hb dX12_hasOwn_0 rfl (lv_at hl 0 rfl) ?_
  refine lv_tableIn (tgt := 42) hx hb dX12_hasOwn_1 (by decide) (by decide) rfl (by decide) ?_
  refine lv_iload_n hx hb dX12_hasOwn_42 rfl (lv_at hl 1 rfl) ?_
  refine lv_iconst (v := 1) hx hb dX12_hasOwn_43 (by decide) ?_
  refine lv_icmp_ne (tgt := 51) hx hb dX12_hasOwn_44 (by decide) (fun _ => ?_) (fun c9 => absurd c9 (by decide))
  refine lv_iconst (v := 0) hx hb dX12_hasOwn_51 (by decide) ?_
  exact RP (v := 0) hC (rfl) (by decide +kernel) dX12_hasOwn_52
set_option maxHeartbeats 4000000 in
set_option maxRecDepth 100000 in
theorem m_hasOwn13 (l : Launch) (G : GG) : MP l G yX12_hasOwn cX12_hasOwn 2 (some .boolean) 1 [.int 1, .int 3] [] (fun r : Int32 => r = 0) := by
  refine MP.start (by decide +kernel) (Nat.le_of_ble_eq_true rfl) ?_
  intro p e s m below meth c ls hC hK hP hD hl
  have hl : lv_has ls 2 [(0, .int 1), (1, .int 3)] := hl
  obtain ⟨hx, hb, hr, hml, hB, hown, hlocks, hnm⟩ := id hC
  refine lv_iload_n hx hb dX12_hasOwn_0 rfl (lv_at hl 0 rfl) ?_
  refine lv_tableIn (tgt := 42) hx hb dX12_hasOwn_1 (by decide) (by decide) rfl (by decide) ?_
  refine lv_iload_n hx hb dX12_hasOwn_42 rfl (lv_at hl 1 rfl) ?_
  refine lv_iconst (v := 1) hx hb dX12_hasOwn_43 (by decide) ?_
  refine lv_icmp_ne (tgt := 51) hx hb dX12_hasOwn_44 (by decide) (fun _ => ?_) (fun c9 => absurd c9 (by decide))
  refine lv_iconst (v := 0) hx hb dX12_hasOwn_51 (by decide) ?_
  exact RP (v := 0) hC (rfl) (by decide +kernel) dX12_hasOwn_52
set_option maxHeartbeats 4000000 in
set_option maxRecDepth 100000 in
theorem m_hasOwn20 (l : Launch) (G : GG) : MP l G yX12_hasOwn cX12_hasOwn 2 (some .boolean) 1 [.int 2, .int 0] [] (fun r : Int32 => r = 0) := by
  refine MP.start (by decide +kernel) (Nat.le_of_ble_eq_true rfl) ?_
  intro p e s m below meth c ls hC hK hP hD hl
  have hl : lv_has ls 2 [(0, .int 2), (1, .int 0)] := hl
  obtain ⟨hx, hb, hr, hml, hB, hown, hlocks, hnm⟩ := id hC
  refine lv_iload_n hx hb dX12_hasOwn_0 rfl (lv_at hl 0 rfl) ?_
  refine lv_tableIn (tgt := 53) hx hb dX12_hasOwn_1 (by decide) (by decide) rfl (by decide) ?_
  refine lv_iload_n hx hb dX12_hasOwn_53 rfl (lv_at hl 1 rfl) ?_
  refine lv_iconst (v := 2) hx hb dX12_hasOwn_54 (by decide) ?_
  refine lv_icmp_ne (tgt := 62) hx hb dX12_hasOwn_55 (by decide) (fun _ => ?_) (fun c9 => absurd c9 (by decide))
  refine lv_iconst (v := 0) hx hb dX12_hasOwn_62 (by decide) ?_
  exact RP (v := 0) hC (rfl) (by decide +kernel) dX12_hasOwn_63
set_option maxHeartbeats 4000000 in
set_option maxRecDepth 100000 in
theorem m_hasOwn21 (l : Launch) (G : GG) : MP l G yX12_hasOwn cX12_hasOwn 2 (some .boolean) 1 [.int 2, .int 1] [] (fun r : Int32 => r = 0) := by
  refine MP.start (by decide +kernel) (Nat.le_of_ble_eq_true rfl) ?_
  intro p e s m below meth c ls hC hK hP hD hl
  have hl : lv_has ls 2 [(0, .int 2), (1, .int 1)] := hl
  obtain ⟨hx, hb, hr, hml, hB, hown, hlocks, hnm⟩ := id hC
  refine lv_iload_n hx hb dX12_hasOwn_0 rfl (lv_at hl 0 rfl) ?_
  refine lv_tableIn (tgt := 53) hx hb dX12_hasOwn_1 (by decide) (by decide) rfl (by decide) ?_
  refine lv_iload_n hx hb dX12_hasOwn_53 rfl (lv_at hl 1 rfl) ?_
  refine lv_iconst (v := 2) hx hb dX12_hasOwn_54 (by decide) ?_
  refine lv_icmp_ne (tgt := 62) hx hb dX12_hasOwn_55 (by decide) (fun _ => ?_) (fun c9 => absurd c9 (by decide))
  refine lv_iconst (v := 0) hx hb dX12_hasOwn_62 (by decide) ?_
  exact RP (v := 0) hC (rfl) (by decide +kernel) dX12_hasOwn_63
set_option maxHeartbeats 4000000 in
set_option maxRecDepth 100000 in
theorem m_hasOwn22 (l : Launch) (G : GG) : MP l G yX12_hasOwn cX12_hasOwn 2 (some .boolean) 1 [.int 2, .int 2] [] (fun r : Int32 => r = 1) := by
  refine MP.start (by decide +kernel) (Nat.le_of_ble_eq_true rfl) ?_
  intro p e s m below meth c ls hC hK hP hD hl
  have hl : lv_has ls 2 [(0, .int 2), (1, .int 2)] := hl
  obtain ⟨hx, hb, hr, hml, hB, hown, hlocks, hnm⟩ := id hC
  refine lv_iload_n hx hb dX12_hasOwn_0 rfl (lv_at hl 0 rfl) ?_
  refine lv_tableIn (tgt := 53) hx hb dX12_hasOwn_1 (by decide) (by decide) rfl (by decide) ?_
  refine lv_iload_n hx hb dX12_hasOwn_53 rfl (lv_at hl 1 rfl) ?_
  refine lv_iconst (v := 2) hx hb dX12_hasOwn_54 (by decide) ?_
  refine lv_icmp_ne (tgt := 62) hx hb dX12_hasOwn_55 (by decide) (fun c9 => absurd (by decide) c9) (fun _ => ?_)
  refine lv_iconst (v := 1) hx hb dX12_hasOwn_58 (by decide) ?_
  refine lv_goto (tgt := 63) hx hb dX12_hasOwn_59 (by decide) ?_
  exact RP (v := 1) hC (rfl) (by decide +kernel) dX12_hasOwn_63
set_option maxHeartbeats 4000000 in
set_option maxRecDepth 100000 in
theorem m_hasOwn23 (l : Launch) (G : GG) : MP l G yX12_hasOwn cX12_hasOwn 2 (some .boolean) 1 [.int 2, .int 3] [] (fun r : Int32 => r = 0) := by
  refine MP.start (by decide +kernel) (Nat.le_of_ble_eq_true rfl) ?_
  intro p e s m below meth c ls hC hK hP hD hl
  have hl : lv_has ls 2 [(0, .int 2), (1, .int 3)] := hl
  obtain ⟨hx, hb, hr, hml, hB, hown, hlocks, hnm⟩ := id hC
  refine lv_iload_n hx hb dX12_hasOwn_0 rfl (lv_at hl 0 rfl) ?_
  refine lv_tableIn (tgt := 53) hx hb dX12_hasOwn_1 (by decide) (by decide) rfl (by decide) ?_
  refine lv_iload_n hx hb dX12_hasOwn_53 rfl (lv_at hl 1 rfl) ?_
  refine lv_iconst (v := 2) hx hb dX12_hasOwn_54 (by decide) ?_
  refine lv_icmp_ne (tgt := 62) hx hb dX12_hasOwn_55 (by decide) (fun _ => ?_) (fun c9 => absurd c9 (by decide))
  refine lv_iconst (v := 0) hx hb dX12_hasOwn_62 (by decide) ?_
  exact RP (v := 0) hC (rfl) (by decide +kernel) dX12_hasOwn_63
set_option maxHeartbeats 4000000 in
set_option maxRecDepth 100000 in
theorem m_hasOwn30 (l : Launch) (G : GG) : MP l G yX12_hasOwn cX12_hasOwn 2 (some .boolean) 1 [.int 3, .int 0] [] (fun r : Int32 => r = 0) := by
  refine MP.start (by decide +kernel) (Nat.le_of_ble_eq_true rfl) ?_
  intro p e s m below meth c ls hC hK hP hD hl
  have hl : lv_has ls 2 [(0, .int 3), (1, .int 0)] := hl
  obtain ⟨hx, hb, hr, hml, hB, hown, hlocks, hnm⟩ := id hC
  refine lv_iload_n hx hb dX12_hasOwn_0 rfl (lv_at hl 0 rfl) ?_
  refine lv_tableIn (tgt := 64) hx hb dX12_hasOwn_1 (by decide) (by decide) rfl (by decide) ?_
  refine lv_iload_n hx hb dX12_hasOwn_64 rfl (lv_at hl 1 rfl) ?_
  refine lv_iconst (v := 1) hx hb dX12_hasOwn_65 (by decide) ?_
  refine lv_icmp_eq (tgt := 74) hx hb dX12_hasOwn_66 (by decide) (fun c9 => absurd c9 (by decide)) (fun _ => ?_)
  refine lv_iload_n hx hb dX12_hasOwn_69 rfl (lv_at hl 1 rfl) ?_
  refine lv_iconst (v := 3) hx hb dX12_hasOwn_70 (by decide) ?_
  refine lv_icmp_ne (tgt := 78) hx hb dX12_hasOwn_71 (by decide) (fun _ => ?_) (fun c9 => absurd c9 (by decide))
  refine lv_iconst (v := 0) hx hb dX12_hasOwn_78 (by decide) ?_
  exact RP (v := 0) hC (rfl) (by decide +kernel) dX12_hasOwn_79
set_option maxHeartbeats 4000000 in
set_option maxRecDepth 100000 in
theorem m_hasOwn31 (l : Launch) (G : GG) : MP l G yX12_hasOwn cX12_hasOwn 2 (some .boolean) 1 [.int 3, .int 1] [] (fun r : Int32 => r = 1) := by
  refine MP.start (by decide +kernel) (Nat.le_of_ble_eq_true rfl) ?_
  intro p e s m below meth c ls hC hK hP hD hl
  have hl : lv_has ls 2 [(0, .int 3), (1, .int 1)] := hl
  obtain ⟨hx, hb, hr, hml, hB, hown, hlocks, hnm⟩ := id hC
  refine lv_iload_n hx hb dX12_hasOwn_0 rfl (lv_at hl 0 rfl) ?_
  refine lv_tableIn (tgt := 64) hx hb dX12_hasOwn_1 (by decide) (by decide) rfl (by decide) ?_
  refine lv_iload_n hx hb dX12_hasOwn_64 rfl (lv_at hl 1 rfl) ?_
  refine lv_iconst (v := 1) hx hb dX12_hasOwn_65 (by decide) ?_
  refine lv_icmp_eq (tgt := 74) hx hb dX12_hasOwn_66 (by decide) (fun _ => ?_) (fun c9 => absurd (by decide) c9)
  refine lv_iconst (v := 1) hx hb dX12_hasOwn_74 (by decide) ?_
  refine lv_goto (tgt := 79) hx hb dX12_hasOwn_75 (by decide) ?_
  exact RP (v := 1) hC (rfl) (by decide +kernel) dX12_hasOwn_79
set_option maxHeartbeats 4000000 in
set_option maxRecDepth 100000 in
theorem m_hasOwn32 (l : Launch) (G : GG) : MP l G yX12_hasOwn cX12_hasOwn 2 (some .boolean) 1 [.int 3, .int 2] [] (fun r : Int32 => r = 0) := by
  refine MP.start (by decide +kernel) (Nat.le_of_ble_eq_true rfl) ?_
  intro p e s m below meth c ls hC hK hP hD hl
  have hl : lv_has ls 2 [(0, .int 3), (1, .int 2)] := hl
  obtain ⟨hx, hb, hr, hml, hB, hown, hlocks, hnm⟩ := id hC
  refine lv_iload_n hx hb dX12_hasOwn_0 rfl (lv_at hl 0 rfl) ?_
  refine lv_tableIn (tgt := 64) hx hb dX12_hasOwn_1 (by decide) (by decide) rfl (by decide) ?_
  refine lv_iload_n hx hb dX12_hasOwn_64 rfl (lv_at hl 1 rfl) ?_
  refine lv_iconst (v := 1) hx hb dX12_hasOwn_65 (by decide) ?_
  refine lv_icmp_eq (tgt := 74) hx hb dX12_hasOwn_66 (by decide) (fun c9 => absurd c9 (by decide)) (fun _ => ?_)
  refine lv_iload_n hx hb dX12_hasOwn_69 rfl (lv_at hl 1 rfl) ?_
  refine lv_iconst (v := 3) hx hb dX12_hasOwn_70 (by decide) ?_
  refine lv_icmp_ne (tgt := 78) hx hb dX12_hasOwn_71 (by decide) (fun _ => ?_) (fun c9 => absurd c9 (by decide))
  refine lv_iconst (v := 0) hx hb dX12_hasOwn_78 (by decide) ?_
  exact RP (v := 0) hC (rfl) (by decide +kernel) dX12_hasOwn_79
set_option maxHeartbeats 4000000 in
set_option maxRecDepth 100000 in
theorem m_hasOwn33 (l : Launch) (G : GG) : MP l G yX12_hasOwn cX12_hasOwn 2 (some .boolean) 1 [.int 3, .int 3] [] (fun r : Int32 => r = 1) := by
  refine MP.start (by decide +kernel) (Nat.le_of_ble_eq_true rfl) ?_
  intro p e s m below meth c ls hC hK hP hD hl
  have hl : lv_has ls 2 [(0, .int 3), (1, .int 3)] := hl
  obtain ⟨hx, hb, hr, hml, hB, hown, hlocks, hnm⟩ := id hC
  refine lv_iload_n hx hb dX12_hasOwn_0 rfl (lv_at hl 0 rfl) ?_
  refine lv_tableIn (tgt := 64) hx hb dX12_hasOwn_1 (by decide) (by decide) rfl (by decide) ?_
  refine lv_iload_n hx hb dX12_hasOwn_64 rfl (lv_at hl 1 rfl) ?_
  refine lv_iconst (v := 1) hx hb dX12_hasOwn_65 (by decide) ?_
  refine lv_icmp_eq (tgt := 74) hx hb dX12_hasOwn_66 (by decide) (fun c9 => absurd c9 (by decide)) (fun _ => ?_)
  refine lv_iload_n hx hb dX12_hasOwn_69 rfl (lv_at hl 1 rfl) ?_
  refine lv_iconst (v := 3) hx hb dX12_hasOwn_70 (by decide) ?_
  refine lv_icmp_ne (tgt := 78) hx hb dX12_hasOwn_71 (by decide) (fun c9 => absurd (by decide) c9) (fun _ => ?_)
  refine lv_iconst (v := 1) hx hb dX12_hasOwn_74 (by decide) ?_
  refine lv_goto (tgt := 79) hx hb dX12_hasOwn_75 (by decide) ?_
  exact RP (v := 1) hC (rfl) (by decide +kernel) dX12_hasOwn_79
set_option maxHeartbeats 4000000 in
set_option maxRecDepth 100000 in
theorem m_hasOwn40 (l : Launch) (G : GG) : MP l G yX12_hasOwn cX12_hasOwn 2 (some .boolean) 1 [.int 4, .int 0] [] (fun r : Int32 => r = 1) := by
  refine MP.start (by decide +kernel) (Nat.le_of_ble_eq_true rfl) ?_
  intro p e s m below meth c ls hC hK hP hD hl
  have hl : lv_has ls 2 [(0, .int 4), (1, .int 0)] := hl
  obtain ⟨hx, hb, hr, hml, hB, hown, hlocks, hnm⟩ := id hC
  refine lv_iload_n hx hb dX12_hasOwn_0 rfl (lv_at hl 0 rfl) ?_
  refine lv_tableIn (tgt := 80) hx hb dX12_hasOwn_1 (by decide) (by decide) rfl (by decide) ?_
  refine lv_iload_n hx hb dX12_hasOwn_80 rfl (lv_at hl 1 rfl) ?_
  refine lv_if_eq (tgt := 89) hx hb dX12_hasOwn_81 (by decide) (fun _ => ?_) (fun c9 => absurd (by decide) c9)
  refine lv_iconst (v := 1) hx hb dX12_hasOwn_89 (by decide) ?_
  refine lv_goto (tgt := 94) hx hb dX12_hasOwn_90 (by decide) ?_
  exact RP (v := 1) hC (rfl) (by decide +kernel) dX12_hasOwn_94
set_option maxHeartbeats 4000000 in
set_option maxRecDepth 100000 in
theorem m_hasOwn41 (l : Launch) (G : GG) : MP l G yX12_hasOwn cX12_hasOwn 2 (some .boolean) 1 [.int 4, .int 1] [] (fun r : Int32 => r = 0) := by
  refine MP.start (by decide +kernel) (Nat.le_of_ble_eq_true rfl) ?_
  intro p e s m below meth c ls hC hK hP hD hl
  have hl : lv_has ls 2 [(0, .int 4), (1, .int 1)] := hl
  obtain ⟨hx, hb, hr, hml, hB, hown, hlocks, hnm⟩ := id hC
  refine lv_iload_n hx hb dX12_hasOwn_0 rfl (lv_at hl 0 rfl) ?_
  refine lv_tableIn (tgt := 80) hx hb dX12_hasOwn_1 (by decide) (by decide) rfl (by decide) ?_
  refine lv_iload_n hx hb dX12_hasOwn_80 rfl (lv_at hl 1 rfl) ?_
  refine lv_if_eq (tgt := 89) hx hb dX12_hasOwn_81 (by decide) (fun c9 => absurd c9 (by decide)) (fun _ => ?_)
  refine lv_iload_n hx hb dX12_hasOwn_84 rfl (lv_at hl 1 rfl) ?_
  refine lv_iconst (v := 2) hx hb dX12_hasOwn_85 (by decide) ?_
  refine lv_icmp_ne (tgt := 93) hx hb dX12_hasOwn_86 (by decide) (fun _ => ?_) (fun c9 => absurd c9 (by decide))
  refine lv_iconst (v := 0) hx hb dX12_hasOwn_93 (by decide) ?_
  exact RP (v := 0) hC (rfl) (by decide +kernel) dX12_hasOwn_94
set_option maxHeartbeats 4000000 in
set_option maxRecDepth 100000 in
theorem m_hasOwn42 (l : Launch) (G : GG) : MP l G yX12_hasOwn cX12_hasOwn 2 (some .boolean) 1 [.int 4, .int 2] [] (fun r : Int32 => r = 1) := by
  refine MP.start (by decide +kernel) (Nat.le_of_ble_eq_true rfl) ?_
  intro p e s m below meth c ls hC hK hP hD hl
  have hl : lv_has ls 2 [(0, .int 4), (1, .int 2)] := hl
  obtain ⟨hx, hb, hr, hml, hB, hown, hlocks, hnm⟩ := id hC
  refine lv_iload_n hx hb dX12_hasOwn_0 rfl (lv_at hl 0 rfl) ?_
  refine lv_tableIn (tgt := 80) hx hb dX12_hasOwn_1 (by decide) (by decide) rfl (by decide) ?_
  refine lv_iload_n hx hb dX12_hasOwn_80 rfl (lv_at hl 1 rfl) ?_
  refine lv_if_eq (tgt := 89) hx hb dX12_hasOwn_81 (by decide) (fun c9 => absurd c9 (by decide)) (fun _ => ?_)
  refine lv_iload_n hx hb dX12_hasOwn_84 rfl (lv_at hl 1 rfl) ?_
  refine lv_iconst (v := 2) hx hb dX12_hasOwn_85 (by decide) ?_
  refine lv_icmp_ne (tgt := 93) hx hb dX12_hasOwn_86 (by decide) (fun c9 => absurd (by decide) c9) (fun _ => ?_)
  refine lv_iconst (v := 1) hx hb dX12_hasOwn_89 (by decide) ?_
  refine lv_goto (tgt := 94) hx hb dX12_hasOwn_90 (by decide) ?_
  exact RP (v := 1) hC (rfl) (by decide +kernel) dX12_hasOwn_94
set_option maxHeartbeats 4000000 in
set_option maxRecDepth 100000 in
theorem m_hasOwn43 (l : Launch) (G : GG) : MP l G yX12_hasOwn cX12_hasOwn 2 (some .boolean) 1 [.int 4, .int 3] [] (fun r : Int32 => r = 0) := by
  refine MP.start (by decide +kernel) (Nat.le_of_ble_eq_true rfl) ?_
  intro p e s m below meth c ls hC hK hP hD hl
  have hl : lv_has ls 2 [(0, .int 4), (1, .int 3)] := hl
  obtain ⟨hx, hb, hr, hml, hB, hown, hlocks, hnm⟩ := id hC
  refine lv_iload_n hx hb dX12_hasOwn_0 rfl (lv_at hl 0 rfl) ?_
  refine lv_tableIn (tgt := 80) hx hb dX12_hasOwn_1 (by decide) (by decide) rfl (by decide) ?_
  refine lv_iload_n hx hb dX12_hasOwn_80 rfl (lv_at hl 1 rfl) ?_
  refine lv_if_eq (tgt := 89) hx hb dX12_hasOwn_81 (by decide) (fun c9 => absurd c9 (by decide)) (fun _ => ?_)
  refine lv_iload_n hx hb dX12_hasOwn_84 rfl (lv_at hl 1 rfl) ?_
  refine lv_iconst (v := 2) hx hb dX12_hasOwn_85 (by decide) ?_
  refine lv_icmp_ne (tgt := 93) hx hb dX12_hasOwn_86 (by decide) (fun _ => ?_) (fun c9 => absurd c9 (by decide))
  refine lv_iconst (v := 0) hx hb dX12_hasOwn_93 (by decide) ?_
  exact RP (v := 0) hC (rfl) (by decide +kernel) dX12_hasOwn_94
set_option maxHeartbeats 4000000 in
set_option maxRecDepth 100000 in
theorem m_hasOwn50 (l : Launch) (G : GG) : MP l G yX12_hasOwn cX12_hasOwn 2 (some .boolean) 1 [.int 5, .int 0] [] (fun r : Int32 => r = 1) := by
  refine MP.start (by decide +kernel) (Nat.le_of_ble_eq_true rfl) ?_
  intro p e s m below meth c ls hC hK hP hD hl
  have hl : lv_has ls 2 [(0, .int 5), (1, .int 0)] := hl
  obtain ⟨hx, hb, hr, hml, hB, hown, hlocks, hnm⟩ := id hC
  refine lv_iload_n hx hb dX12_hasOwn_0 rfl (lv_at hl 0 rfl) ?_
  refine lv_tableIn (tgt := 80) hx hb dX12_hasOwn_1 (by decide) (by decide) rfl (by decide) ?_
  refine lv_iload_n hx hb dX12_hasOwn_80 rfl (lv_at hl 1 rfl) ?_
  refine lv_if_eq (tgt := 89) hx hb dX12_hasOwn_81 (by decide) (fun _ => ?_) (fun c9 => absurd (by decide) c9)
  refine lv_iconst (v := 1) hx hb dX12_hasOwn_89 (by decide) ?_
  refine lv_goto (tgt := 94) hx hb dX12_hasOwn_90 (by decide) ?_
  exact RP (v := 1) hC (rfl) (by decide +kernel) dX12_hasOwn_94
set_option maxHeartbeats 4000000 in
set_option maxRecDepth 100000 in
theorem m_hasOwn51 (l : Launch) (G : GG) : MP l G yX12_hasOwn cX12_hasOwn 2 (some .boolean) 1 [.int 5, .int 1] [] (fun r : Int32 => r = 0) := by
  refine MP.start (by decide +kernel) (Nat.le_of_ble_eq_true rfl) ?_
  intro p e s m below meth c ls hC hK hP hD hl
  have hl : lv_has ls 2 [(0, .int 5), (1, .int 1)] := hl
  obtain ⟨hx, hb, hr, hml, hB, hown, hlocks, hnm⟩ := id hC
  refine lv_iload_n hx hb dX12_hasOwn_0 rfl (lv_at hl 0 rfl) ?_
  refine lv_tableIn (tgt := 80) hx hb dX12_hasOwn_1 (by decide) (by decide) rfl (by decide) ?_
  refine lv_iload_n hx hb dX12_hasOwn_80 rfl (lv_at hl 1 rfl) ?_
  refine lv_if_eq (tgt := 89) hx hb dX12_hasOwn_81 (by decide) (fun c9 => absurd c9 (by decide)) (fun _ => ?_)
  refine lv_iload_n hx hb dX12_hasOwn_84 rfl (lv_at hl 1 rfl) ?_
  refine lv_iconst (v := 2) hx hb dX12_hasOwn_85 (by decide) ?_
  refine lv_icmp_ne (tgt := 93) hx hb dX12_hasOwn_86 (by decide) (fun _ => ?_) (fun c9 => absurd c9 (by decide))
  refine lv_iconst (v := 0) hx hb dX12_hasOwn_93 (by decide) ?_
  exact RP (v := 0) hC (rfl) (by decide +kernel) dX12_hasOwn_94
set_option maxHeartbeats 4000000 in
set_option maxRecDepth 100000 in
theorem m_hasOwn52 (l : Launch) (G : GG) : MP l G yX12_hasOwn cX12_hasOwn 2 (some .boolean) 1 [.int 5, .int 2] [] (fun r : Int32 => r = 1) := by
  refine MP.start (by decide +kernel) (Nat.le_of_ble_eq_true rfl) ?_
  intro p e s m below meth c ls hC hK hP hD hl
  have hl : lv_has ls 2 [(0, .int 5), (1, .int 2)] := hl
  obtain ⟨hx, hb, hr, hml, hB, hown, hlocks, hnm⟩ := id hC
  refine lv_iload_n hx hb dX12_hasOwn_0 rfl (lv_at hl 0 rfl) ?_
  refine lv_tableIn (tgt := 80) hx hb dX12_hasOwn_1 (by decide) (by decide) rfl (by decide) ?_
  refine lv_iload_n hx hb dX12_hasOwn_80 rfl (lv_at hl 1 rfl) ?_
  refine lv_if_eq (tgt := 89) hx hb dX12_hasOwn_81 (by decide) (fun c9 => absurd c9 (by decide)) (fun _ => ?_)
  refine lv_iload_n hx hb dX12_hasOwn_84 rfl (lv_at hl 1 rfl) ?_
  refine lv_iconst (v := 2) hx hb dX12_hasOwn_85 (by decide) ?_
  refine lv_icmp_ne (tgt := 93) hx hb dX12_hasOwn_86 (by decide) (fun c9 => absurd (by decide) c9) (fun _ => ?_)
  refine lv_iconst (v := 1) hx hb dX12_hasOwn_89 (by decide) ?_
  refine lv_goto (tgt := 94) hx hb dX12_hasOwn_90 (by decide) ?_
  exact RP (v := 1) hC (rfl) (by decide +kernel) dX12_hasOwn_94
set_option maxHeartbeats 4000000 in
set_option maxRecDepth 100000 in
theorem m_hasOwn53 (l : Launch) (G : GG) : MP l G yX12_hasOwn cX12_hasOwn 2 (some .boolean) 1 [.int 5, .int 3] [] (fun r : Int32 => r = 0) := by
  refine MP.start (by decide +kernel) (Nat.le_of_ble_eq_true rfl) ?_
  intro p e s m below meth c ls hC hK hP hD hl
  have hl : lv_has ls 2 [(0, .int 5), (1, .int 3)] := hl
  obtain ⟨hx, hb, hr, hml, hB, hown, hlocks, hnm⟩ := id hC
  refine lv_iload_n hx hb dX12_hasOwn_0 rfl (lv_at hl 0 rfl) ?_
  refine lv_tableIn (tgt := 80) hx hb dX12_hasOwn_1 (by decide) (by decide) rfl (by decide) ?_
  refine lv_iload_n hx hb dX12_hasOwn_80 rfl (lv_at hl 1 rfl) ?_
  refine lv_if_eq (tgt := 89) hx hb dX12_hasOwn_81 (by decide) (fun c9 => absurd c9 (by decide)) (fun _ => ?_)
  refine lv_iload_n hx hb dX12_hasOwn_84 rfl (lv_at hl 1 rfl) ?_
  refine lv_iconst (v := 2) hx hb dX12_hasOwn_85 (by decide) ?_
  refine lv_icmp_ne (tgt := 93) hx hb dX12_hasOwn_86 (by decide) (fun _ => ?_) (fun c9 => absurd c9 (by decide))
  refine lv_iconst (v := 0) hx hb dX12_hasOwn_93 (by decide) ?_
  exact RP (v := 0) hC (rfl) (by decide +kernel) dX12_hasOwn_94
set_option maxHeartbeats 4000000 in
set_option maxRecDepth 100000 in
theorem m_hasOwn60 (l : Launch) (G : GG) : MP l G yX12_hasOwn cX12_hasOwn 2 (some .boolean) 1 [.int 6, .int 0] [] (fun r : Int32 => r = 0) := by
  refine MP.start (by decide +kernel) (Nat.le_of_ble_eq_true rfl) ?_
  intro p e s m below meth c ls hC hK hP hD hl
  have hl : lv_has ls 2 [(0, .int 6), (1, .int 0)] := hl
  obtain ⟨hx, hb, hr, hml, hB, hown, hlocks, hnm⟩ := id hC
  refine lv_iload_n hx hb dX12_hasOwn_0 rfl (lv_at hl 0 rfl) ?_
  refine lv_tableOut (tgt := 95) hx hb dX12_hasOwn_1 (by decide) (by decide) ?_
  refine lv_iload_n hx hb dX12_hasOwn_95 rfl (lv_at hl 1 rfl) ?_
  refine lv_iconst (v := 3) hx hb dX12_hasOwn_96 (by decide) ?_
  refine lv_icmp_ne (tgt := 104) hx hb dX12_hasOwn_97 (by decide) (fun _ => ?_) (fun c9 => absurd c9 (by decide))
  refine lv_iconst (v := 0) hx hb dX12_hasOwn_104 (by decide) ?_
  exact RP (v := 0) hC (rfl) (by decide +kernel) dX12_hasOwn_105
set_option maxHeartbeats 4000000 in
set_option maxRecDepth 100000 in
theorem m_hasOwn61 (l : Launch) (G : GG) : MP l G yX12_hasOwn cX12_hasOwn 2 (some .boolean) 1 [.int 6, .int 1] [] (fun r : Int32 => r = 0) := by
  refine MP.start (by decide +kernel) (Nat.le_of_ble_eq_true rfl) ?_
  intro p e s m below meth c ls hC hK hP hD hl
  have hl : lv_has ls 2 [(0, .int 6), (1, .int 1)] := hl
  obtain ⟨hx, hb, hr, hml, hB, hown, hlocks, hnm⟩ := id hC
  refine lv_iload_n hx hb dX12_hasOwn_0 rfl (lv_at hl 0 rfl) ?_
  refine lv_tableOut (tgt := 95) hx hb dX12_hasOwn_1 (by decide) (by decide) ?_
  refine lv_iload_n hx hb dX12_hasOwn_95 rfl (lv_at hl 1 rfl) ?_
  refine lv_iconst (v := 3) hx hb dX12_hasOwn_96 (by decide) ?_
  refine lv_icmp_ne (tgt := 104) hx hb dX12_hasOwn_97 (by decide) (fun _ => ?_) (fun c9 => absurd c9 (by decide))
  refine lv_iconst (v := 0) hx hb dX12_hasOwn_104 (by decide) ?_
  exact RP (v := 0) hC (rfl) (by decide +kernel) dX12_hasOwn_105
set_option maxHeartbeats 4000000 in
set_option maxRecDepth 100000 in
theorem m_hasOwn62 (l : Launch) (G : GG) : MP l G yX12_hasOwn cX12_hasOwn 2 (some .boolean) 1 [.int 6, .int 2] [] (fun r : Int32 => r = 0) := by
  refine MP.start (by decide +kernel) (Nat.le_of_ble_eq_true rfl) ?_
  intro p e s m below meth c ls hC hK hP hD hl
  have hl : lv_has ls 2 [(0, .int 6), (1, .int 2)] := hl
  obtain ⟨hx, hb, hr, hml, hB, hown, hlocks, hnm⟩ := id hC
  refine lv_iload_n hx hb dX12_hasOwn_0 rfl (lv_at hl 0 rfl) ?_
  refine lv_tableOut (tgt := 95) hx hb dX12_hasOwn_1 (by decide) (by decide) ?_
  refine lv_iload_n hx hb dX12_hasOwn_95 rfl (lv_at hl 1 rfl) ?_
  refine lv_iconst (v := 3) hx hb dX12_hasOwn_96 (by decide) ?_
  refine lv_icmp_ne (tgt := 104) hx hb dX12_hasOwn_97 (by decide) (fun _ => ?_) (fun c9 => absurd c9 (by decide))
  refine lv_iconst (v := 0) hx hb dX12_hasOwn_104 (by decide) ?_
  exact RP (v := 0) hC (rfl) (by decide +kernel) dX12_hasOwn_105
set_option maxHeartbeats 4000000 in
set_option maxRecDepth 100000 in
theorem m_hasOwn63 (l : Launch) (G : GG) : MP l G yX12_hasOwn cX12_hasOwn 2 (some .boolean) 1 [.int 6, .int 3] [] (fun r : Int32 => r = 1) := by
  refine MP.start (by decide +kernel) (Nat.le_of_ble_eq_true rfl) ?_
  intro p e s m below meth c ls hC hK hP hD hl
  have hl : lv_has ls 2 [(0, .int 6), (1, .int 3)] := hl
  obtain ⟨hx, hb, hr, hml, hB, hown, hlocks, hnm⟩ := id hC
  refine lv_iload_n hx hb dX12_hasOwn_0 rfl (lv_at hl 0 rfl) ?_
  refine lv_tableOut (tgt := 95) hx hb dX12_hasOwn_1 (by decide) (by decide) ?_
  refine lv_iload_n hx hb dX12_hasOwn_95 rfl (lv_at hl 1 rfl) ?_
  refine lv_iconst (v := 3) hx hb dX12_hasOwn_96 (by decide) ?_
  refine lv_icmp_ne (tgt := 104) hx hb dX12_hasOwn_97 (by decide) (fun c9 => absurd (by decide) c9) (fun _ => ?_)
  refine lv_iconst (v := 1) hx hb dX12_hasOwn_100 (by decide) ?_
  refine lv_goto (tgt := 105) hx hb dX12_hasOwn_101 (by decide) ?_
  exact RP (v := 1) hC (rfl) (by decide +kernel) dX12_hasOwn_105
set_option maxHeartbeats 4000000 in
set_option maxRecDepth 100000 in
theorem r_taken (l : Launch) (G : GG) (h0 : Nat) (x1 : Int32) (x2 : Int32) (nw : Nat) (nk : Nat) (mhasKept : Int32) (nt : Nat) (mtaped : Int32) (nr : Nat) (mrowMany : Int32) (mroundOf : Int32) (mroundFrom : Int32) (mouts : Int32) (nm : Nat) (mfromHour : Int32) (mtoHour : Int32) (ns : Nat) (mfrom : Int32) (mto : Int32) (msort : Int32) (misFault : Int32) (mdeep : Int32) (mcoded : Int32) (mlines : Int32) (nl : Nat) (nc : Nat) (nF : Nat) (np : Nat) (ntr : Nat) (nb : Nat) (mbestCost : Int32) (nso : Nat) (nsi : Nat) (nit : Nat) (nsh : Nat) (nsf : Nat) (nss : Nat) (nrc : Nat) (mtraced : Int32) (mdealer : Int32) (mnumber : Int32) (mwhose : Int32) (msize : Int32) (misParted : Int32) (fnw : Nat → Int32) (fnsh : Nat → Int32) (fnsf : Nat → Int32) (fnss : Nat → Int32) (hN : NI fnw) : MP l G yX12_taken cX12_taken 4 (some .int) 4 [.ref h0, .int x1, .int x2] [(h0, .inr (12, [.ref nw, .ref nk, .int mhasKept, .ref nt, .int mtaped, .ref nr, .int mrowMany, .int mroundOf, .int mroundFrom, .int mouts, .ref nm, .int mfromHour, .int mtoHour, .ref ns, .int mfrom, .int mto, .int msort, .int misFault, .int mdeep, .int mcoded, .int mlines, .ref nl, .ref nc, .ref nF, .ref np, .ref ntr, .ref nb, .int mbestCost, .ref nso, .ref nsi, .ref nit, .ref nsh, .ref nsf, .ref nss, .ref nrc, .int mtraced, .int mdealer, .int mnumber, .int mwhose, .int msize, .int misParted])), (nw, .inl (G.2.1, 1662, .inl fnw)), (nsh, .inl (G.2.1, 4, .inl fnsh)), (nsf, .inl (G.2.1, 4, .inl fnsf)), (nss, .inl (G.2.1, 4, .inl fnss))] (fun r : Int32 => True) := by
  refine MP.start (by decide +kernel) (Nat.le_of_ble_eq_true rfl) ?_
  intro p e s m below meth c ls hC hK hP hD hl
  have hl : lv_has ls 4 [(0, .ref h0), (1, .int x1), (2, .int x2)] := hl
  obtain ⟨hx, hb, hr, hml, hB, hown, hlocks, hnm⟩ := id hC
  refine lv_iload_n hx hb dX12_taken_0 rfl (lv_at hl 1 rfl) ?_
  refine pS hC hK hl (m_isFour l G x1) si_X12_336 rfl rfl (Nat.le_of_ble_eq_true rfl) ⟨Nat.le_of_ble_eq_true rfl, Nat.le_of_ble_eq_true rfl⟩ ⟨by first | exact Nat.le_of_ble_eq_true rfl | exact Nat.zero_le _, by first | exact Nat.le_of_ble_eq_true rfl | exact Nat.zero_le _⟩ dX12_taken_1 (fun r5553 hr5553 => ?_)
  rcases hr5553 with ⟨rfl, a5554⟩ | ⟨rfl, a5554⟩
  · refine lv_if_eq (tgt := 28) hx hb dX12_taken_4 (by decide) (fun c9 => absurd c9 (by decide)) (fun _ => ?_)
    refine lv_iload_n hx hb dX12_taken_7 rfl (lv_at hl 2 rfl) ?_
    refine lv_iconst (v := 0) hx hb dX12_taken_8 (by decide) ?_
    refine lv_bipush (v := 6) hx hb dX12_taken_9 (by decide) ?_
    refine pS hC hK hl (m_within l G x2 0 6) si_X12_84 rfl rfl (Nat.le_of_ble_eq_true rfl) ⟨Nat.le_of_ble_eq_true rfl, Nat.le_of_ble_eq_true rfl⟩ ⟨by first | exact Nat.le_of_ble_eq_true rfl | exact Nat.zero_le _, by first | exact Nat.le_of_ble_eq_true rfl | exact Nat.zero_le _⟩ dX12_taken_11 (fun r5555 hr5555 => ?_)
    rcases hr5555 with ⟨rfl, a5556⟩ | ⟨rfl, a5556⟩
    · refine lv_if_ne (tgt := 30) hx hb dX12_taken_14 (by decide) (fun _ => ?_) (fun c9 => absurd c9 (by decide))
      obtain ⟨jt, hjt, rfl⟩ := Wi_nat (N := 3) (by decide) a5554
      refine lv_aload_n hx hb dX12_taken_30 rfl (lv_at hl 0 rfl) ?_
      refine gf_X12_72 hC rfl hK hP 0 rfl rfl dX12_taken_31 ?_
      refine lv_iload_n hx hb dX12_taken_34 rfl (lv_at hl 1 rfl) ?_
      refine ald hC hK hP 2 rfl (vp_in_nI (by omega) (by omega)) (k := jt) (nI_clamp (by omega)) (v := fnsh jt) rfl dX12_taken_35 ?_
      refine lv_topi (fun x5557 ex5557 => ?_)
      refine lv_iconst (v := 4) hx hb dX12_taken_36 (by decide) ?_
      refine lv_icmp_ne (tgt := 65) hx hb dX12_taken_37 (by decide) (fun c_37_5558 => ?_) (fun c_37_5558 => ?_)
      · refine lv_aload_n hx hb dX12_taken_65 rfl (lv_at hl 0 rfl) ?_
        refine lv_iload_n hx hb dX12_taken_66 rfl (lv_at hl 1 rfl) ?_
        refine pV hC hK hl hP hD (m_kindOn l G h0 jt nw nk mhasKept nt mtaped nr mrowMany mroundOf mroundFrom mouts nm mfromHour mtoHour ns mfrom mto msort misFault mdeep mcoded mlines nl nc nF np ntr nb mbestCost nso nsi nit nsh nsf nss nrc mtraced mdealer mnumber mwhose msize misParted fnw fnsh fnsf (by omega) (hN)) si_X12_345 [0, 1, 2, 3] rfl rfl (by decide) rfl rfl rfl rfl rfl (Nat.le_of_ble_eq_true rfl) ⟨Nat.le_of_ble_eq_true rfl, Nat.le_of_ble_eq_true rfl⟩ ⟨by first | exact Nat.le_of_ble_eq_true rfl | exact Nat.zero_le _, by first | exact Nat.le_of_ble_eq_true rfl | exact Nat.zero_le _⟩ dX12_taken_67 (fun r5559 hr5559 => ?_)
        rcases hr5559 with rfl | ⟨rfl, a5560⟩ | ⟨rfl, a5560⟩ | ⟨rfl, a5560⟩ | ⟨rfl, a5560⟩ | ⟨rfl, a5560⟩ | ⟨rfl, a5560⟩
        · refine lv_istore_n (lv' := [(3, .int (-1)), (0, .ref h0), (1, .int (nI jt)), (2, .int x2)]) hx hb dX12_taken_70 rfl hl (by decide) rfl (fun ls hl => ?_)
          refine lv_iload_n hx hb dX12_taken_71 rfl (lv_at hl 0 rfl) ?_
          refine lv_if_ge (tgt := 78) hx hb dX12_taken_72 (by decide) (fun c9 => absurd c9 (by decide)) (fun _ => ?_)
          refine lv_bipush (v := (-11)) hx hb dX12_taken_75 (by decide) ?_
          exact RP (v := (-11)) hC (trivial) rfl dX12_taken_77
        · refine lv_istore_n (lv' := [(3, .int 1), (0, .ref h0), (1, .int (nI jt)), (2, .int x2)]) hx hb dX12_taken_70 rfl hl (by decide) rfl (fun ls hl => ?_)
          refine lv_iload_n hx hb dX12_taken_71 rfl (lv_at hl 0 rfl) ?_
          refine lv_if_ge (tgt := 78) hx hb dX12_taken_72 (by decide) (fun _ => ?_) (fun c9 => absurd (by decide) c9)
          refine lv_iload_n hx hb dX12_taken_78 rfl (lv_at hl 0 rfl) ?_
          refine lv_if_lt (tgt := 95) hx hb dX12_taken_79 (by decide) (fun c9 => absurd c9 (by decide)) (fun _ => ?_)
          refine lv_iload_n hx hb dX12_taken_82 rfl (lv_at hl 0 rfl) ?_
          refine lv_iload_n hx hb dX12_taken_83 rfl (lv_at hl 3 rfl) ?_
          refine lv_icmp_eq (tgt := 95) hx hb dX12_taken_84 (by decide) (fun c_84_5561 => ?_) (fun c_84_5561 => ?_)
          · refine lv_iload_n hx hb dX12_taken_95 rfl (lv_at hl 0 rfl) ?_
            refine lv_iload_n hx hb dX12_taken_96 rfl (lv_at hl 3 rfl) ?_
            refine lv_icmp_ne (tgt := 109) hx hb dX12_taken_97 (by decide) (fun c9 => absurd (c_84_5561) c9) (fun _ => ?_)
            refine lv_aload_n hx hb dX12_taken_100 rfl (lv_at hl 1 rfl) ?_
            refine gf_X12_75 hC rfl hK hP 0 rfl rfl dX12_taken_101 ?_
            refine lv_iload_n hx hb dX12_taken_104 rfl (lv_at hl 2 rfl) ?_
            refine ald hC hK hP 3 rfl (vp_in_nI (by omega) (by omega)) (k := jt) (nI_clamp (by omega)) (v := fnsf jt) rfl dX12_taken_105 ?_
            refine lv_topi (fun x5562 ex5562 => ?_)
            refine lv_goto (tgt := 111) hx hb dX12_taken_106 (by decide) ?_
            exact RP (v := x5562) hC (trivial) rfl dX12_taken_111
          · refine lv_iload_n hx hb dX12_taken_87 rfl (lv_at hl 0 rfl) ?_
            refine pS hC hK hl (m_above1 l G) si_X12_348 rfl rfl (Nat.le_of_ble_eq_true rfl) ⟨Nat.le_of_ble_eq_true rfl, Nat.le_of_ble_eq_true rfl⟩ ⟨by first | exact Nat.le_of_ble_eq_true rfl | exact Nat.zero_le _, by first | exact Nat.le_of_ble_eq_true rfl | exact Nat.zero_le _⟩ dX12_taken_88 (fun r5563 hr5563 => ?_)
            obtain rfl := hr5563
            refine lv_istore_n (lv' := [(3, .int 0), (0, .ref h0), (1, .int (nI jt)), (2, .int x2)]) hx hb dX12_taken_91 rfl hl (by decide) rfl (fun ls hl => ?_)
            refine lv_goto (tgt := 78) hx hb dX12_taken_92 (by decide) ?_
            refine lv_iload_n hx hb dX12_taken_78 rfl (lv_at hl 0 rfl) ?_
            refine lv_if_lt (tgt := 95) hx hb dX12_taken_79 (by decide) (fun c9 => absurd c9 (by decide)) (fun _ => ?_)
            refine lv_iload_n hx hb dX12_taken_82 rfl (lv_at hl 0 rfl) ?_
            refine lv_iload_n hx hb dX12_taken_83 rfl (lv_at hl 3 rfl) ?_
            refine lv_icmp_eq (tgt := 95) hx hb dX12_taken_84 (by decide) (fun c_84_5565 => ?_) (fun c_84_5565 => ?_)
            · refine lv_iload_n hx hb dX12_taken_95 rfl (lv_at hl 0 rfl) ?_
              refine lv_iload_n hx hb dX12_taken_96 rfl (lv_at hl 3 rfl) ?_
              refine lv_icmp_ne (tgt := 109) hx hb dX12_taken_97 (by decide) (fun c9 => absurd (c_84_5565) c9) (fun _ => ?_)
              refine lv_aload_n hx hb dX12_taken_100 rfl (lv_at hl 1 rfl) ?_
              refine gf_X12_75 hC rfl hK hP 0 rfl rfl dX12_taken_101 ?_
              refine lv_iload_n hx hb dX12_taken_104 rfl (lv_at hl 2 rfl) ?_
              refine ald hC hK hP 3 rfl (vp_in_nI (by omega) (by omega)) (k := jt) (nI_clamp (by omega)) (v := fnsf jt) rfl dX12_taken_105 ?_
              refine lv_topi (fun x5566 ex5566 => ?_)
              refine lv_goto (tgt := 111) hx hb dX12_taken_106 (by decide) ?_
              exact RP (v := x5566) hC (trivial) rfl dX12_taken_111
            · refine lv_iload_n hx hb dX12_taken_87 rfl (lv_at hl 0 rfl) ?_
              refine pS hC hK hl (m_above0 l G) si_X12_348 rfl rfl (Nat.le_of_ble_eq_true rfl) ⟨Nat.le_of_ble_eq_true rfl, Nat.le_of_ble_eq_true rfl⟩ ⟨by first | exact Nat.le_of_ble_eq_true rfl | exact Nat.zero_le _, by first | exact Nat.le_of_ble_eq_true rfl | exact Nat.zero_le _⟩ dX12_taken_88 (fun r5567 hr5567 => ?_)
              obtain rfl := hr5567
              refine lv_istore_n (lv' := [(3, .int (-1)), (0, .ref h0), (1, .int (nI jt)), (2, .int x2)]) hx hb dX12_taken_91 rfl hl (by decide) rfl (fun ls hl => ?_)
              refine lv_goto (tgt := 78) hx hb dX12_taken_92 (by decide) ?_
              refine lv_iload_n hx hb dX12_taken_78 rfl (lv_at hl 0 rfl) ?_
              refine lv_if_lt (tgt := 95) hx hb dX12_taken_79 (by decide) (fun _ => ?_) (fun c9 => absurd (by decide) c9)
              refine lv_iload_n hx hb dX12_taken_95 rfl (lv_at hl 0 rfl) ?_
              refine lv_iload_n hx hb dX12_taken_96 rfl (lv_at hl 3 rfl) ?_
              refine lv_icmp_ne (tgt := 109) hx hb dX12_taken_97 (by decide) (fun c_97_5569 => ?_) (fun c_97_5569 => ?_)
              · refine lv_bipush (v := (-13)) hx hb dX12_taken_109 (by decide) ?_
                exact RP (v := (-13)) hC (trivial) rfl dX12_taken_111
              · refine lv_aload_n hx hb dX12_taken_100 rfl (lv_at hl 1 rfl) ?_
                refine gf_X12_75 hC rfl hK hP 0 rfl rfl dX12_taken_101 ?_
                refine lv_iload_n hx hb dX12_taken_104 rfl (lv_at hl 2 rfl) ?_
                refine ald hC hK hP 3 rfl (vp_in_nI (by omega) (by omega)) (k := jt) (nI_clamp (by omega)) (v := fnsf jt) rfl dX12_taken_105 ?_
                refine lv_topi (fun x5570 ex5570 => ?_)
                refine lv_goto (tgt := 111) hx hb dX12_taken_106 (by decide) ?_
                exact RP (v := x5570) hC (trivial) rfl dX12_taken_111
        · refine lv_istore_n (lv' := [(3, .int 2), (0, .ref h0), (1, .int (nI jt)), (2, .int x2)]) hx hb dX12_taken_70 rfl hl (by decide) rfl (fun ls hl => ?_)
          refine lv_iload_n hx hb dX12_taken_71 rfl (lv_at hl 0 rfl) ?_
          refine lv_if_ge (tgt := 78) hx hb dX12_taken_72 (by decide) (fun _ => ?_) (fun c9 => absurd (by decide) c9)
          refine lv_iload_n hx hb dX12_taken_78 rfl (lv_at hl 0 rfl) ?_
          refine lv_if_lt (tgt := 95) hx hb dX12_taken_79 (by decide) (fun c9 => absurd c9 (by decide)) (fun _ => ?_)
          refine lv_iload_n hx hb dX12_taken_82 rfl (lv_at hl 0 rfl) ?_
          refine lv_iload_n hx hb dX12_taken_83 rfl (lv_at hl 3 rfl) ?_
          refine lv_icmp_eq (tgt := 95) hx hb dX12_taken_84 (by decide) (fun c_84_5571 => ?_) (fun c_84_5571 => ?_)
          · refine lv_iload_n hx hb dX12_taken_95 rfl (lv_at hl 0 rfl) ?_
            refine lv_iload_n hx hb dX12_taken_96 rfl (lv_at hl 3 rfl) ?_
            refine lv_icmp_ne (tgt := 109) hx hb dX12_taken_97 (by decide) (fun c9 => absurd (c_84_5571) c9) (fun _ => ?_)
            refine lv_aload_n hx hb dX12_taken_100 rfl (lv_at hl 1 rfl) ?_
            refine gf_X12_75 hC rfl hK hP 0 rfl rfl dX12_taken_101 ?_
            refine lv_iload_n hx hb dX12_taken_104 rfl (lv_at hl 2 rfl) ?_
            refine ald hC hK hP 3 rfl (vp_in_nI (by omega) (by omega)) (k := jt) (nI_clamp (by omega)) (v := fnsf jt) rfl dX12_taken_105 ?_
            refine lv_topi (fun x5572 ex5572 => ?_)
            refine lv_goto (tgt := 111) hx hb dX12_taken_106 (by decide) ?_
            exact RP (v := x5572) hC (trivial) rfl dX12_taken_111
          · refine lv_iload_n hx hb dX12_taken_87 rfl (lv_at hl 0 rfl) ?_
            refine pS hC hK hl (m_above2 l G) si_X12_348 rfl rfl (Nat.le_of_ble_eq_true rfl) ⟨Nat.le_of_ble_eq_true rfl, Nat.le_of_ble_eq_true rfl⟩ ⟨by first | exact Nat.le_of_ble_eq_true rfl | exact Nat.zero_le _, by first | exact Nat.le_of_ble_eq_true rfl | exact Nat.zero_le _⟩ dX12_taken_88 (fun r5573 hr5573 => ?_)
            obtain rfl := hr5573
            refine lv_istore_n (lv' := [(3, .int 0), (0, .ref h0), (1, .int (nI jt)), (2, .int x2)]) hx hb dX12_taken_91 rfl hl (by decide) rfl (fun ls hl => ?_)
            refine lv_goto (tgt := 78) hx hb dX12_taken_92 (by decide) ?_
            refine lv_iload_n hx hb dX12_taken_78 rfl (lv_at hl 0 rfl) ?_
            refine lv_if_lt (tgt := 95) hx hb dX12_taken_79 (by decide) (fun c9 => absurd c9 (by decide)) (fun _ => ?_)
            refine lv_iload_n hx hb dX12_taken_82 rfl (lv_at hl 0 rfl) ?_
            refine lv_iload_n hx hb dX12_taken_83 rfl (lv_at hl 3 rfl) ?_
            refine lv_icmp_eq (tgt := 95) hx hb dX12_taken_84 (by decide) (fun c_84_5575 => ?_) (fun c_84_5575 => ?_)
            · refine lv_iload_n hx hb dX12_taken_95 rfl (lv_at hl 0 rfl) ?_
              refine lv_iload_n hx hb dX12_taken_96 rfl (lv_at hl 3 rfl) ?_
              refine lv_icmp_ne (tgt := 109) hx hb dX12_taken_97 (by decide) (fun c9 => absurd (c_84_5575) c9) (fun _ => ?_)
              refine lv_aload_n hx hb dX12_taken_100 rfl (lv_at hl 1 rfl) ?_
              refine gf_X12_75 hC rfl hK hP 0 rfl rfl dX12_taken_101 ?_
              refine lv_iload_n hx hb dX12_taken_104 rfl (lv_at hl 2 rfl) ?_
              refine ald hC hK hP 3 rfl (vp_in_nI (by omega) (by omega)) (k := jt) (nI_clamp (by omega)) (v := fnsf jt) rfl dX12_taken_105 ?_
              refine lv_topi (fun x5576 ex5576 => ?_)
              refine lv_goto (tgt := 111) hx hb dX12_taken_106 (by decide) ?_
              exact RP (v := x5576) hC (trivial) rfl dX12_taken_111
            · refine lv_iload_n hx hb dX12_taken_87 rfl (lv_at hl 0 rfl) ?_
              refine pS hC hK hl (m_above0 l G) si_X12_348 rfl rfl (Nat.le_of_ble_eq_true rfl) ⟨Nat.le_of_ble_eq_true rfl, Nat.le_of_ble_eq_true rfl⟩ ⟨by first | exact Nat.le_of_ble_eq_true rfl | exact Nat.zero_le _, by first | exact Nat.le_of_ble_eq_true rfl | exact Nat.zero_le _⟩ dX12_taken_88 (fun r5577 hr5577 => ?_)
              obtain rfl := hr5577
              refine lv_istore_n (lv' := [(3, .int (-1)), (0, .ref h0), (1, .int (nI jt)), (2, .int x2)]) hx hb dX12_taken_91 rfl hl (by decide) rfl (fun ls hl => ?_)
              refine lv_goto (tgt := 78) hx hb dX12_taken_92 (by decide) ?_
              refine lv_iload_n hx hb dX12_taken_78 rfl (lv_at hl 0 rfl) ?_
              refine lv_if_lt (tgt := 95) hx hb dX12_taken_79 (by decide) (fun _ => ?_) (fun c9 => absurd (by decide) c9)
              refine lv_iload_n hx hb dX12_taken_95 rfl (lv_at hl 0 rfl) ?_
              refine lv_iload_n hx hb dX12_taken_96 rfl (lv_at hl 3 rfl) ?_
              refine lv_icmp_ne (tgt := 109) hx hb dX12_taken_97 (by decide) (fun c_97_5579 => ?_) (fun c_97_5579 => ?_)
              · refine lv_bipush (v := (-13)) hx hb dX12_taken_109 (by decide) ?_
                exact RP (v := (-13)) hC (trivial) rfl dX12_taken_111
              · refine lv_aload_n hx hb dX12_taken_100 rfl (lv_at hl 1 rfl) ?_
                refine gf_X12_75 hC rfl hK hP 0 rfl rfl dX12_taken_101 ?_
                refine lv_iload_n hx hb dX12_taken_104 rfl (lv_at hl 2 rfl) ?_
                refine ald hC hK hP 3 rfl (vp_in_nI (by omega) (by omega)) (k := jt) (nI_clamp (by omega)) (v := fnsf jt) rfl dX12_taken_105 ?_
                refine lv_topi (fun x5580 ex5580 => ?_)
                refine lv_goto (tgt := 111) hx hb dX12_taken_106 (by decide) ?_
                exact RP (v := x5580) hC (trivial) rfl dX12_taken_111
        · refine lv_istore_n (lv' := [(3, .int 3), (0, .ref h0), (1, .int (nI jt)), (2, .int x2)]) hx hb dX12_taken_70 rfl hl (by decide) rfl (fun ls hl => ?_)
          refine lv_iload_n hx hb dX12_taken_71 rfl (lv_at hl 0 rfl) ?_
          refine lv_if_ge (tgt := 78) hx hb dX12_taken_72 (by decide) (fun _ => ?_) (fun c9 => absurd (by decide) c9)
          refine lv_iload_n hx hb dX12_taken_78 rfl (lv_at hl 0 rfl) ?_
          refine lv_if_lt (tgt := 95) hx hb dX12_taken_79 (by decide) (fun c9 => absurd c9 (by decide)) (fun _ => ?_)
          refine lv_iload_n hx hb dX12_taken_82 rfl (lv_at hl 0 rfl) ?_
          refine lv_iload_n hx hb dX12_taken_83 rfl (lv_at hl 3 rfl) ?_
          refine lv_icmp_eq (tgt := 95) hx hb dX12_taken_84 (by decide) (fun c_84_5581 => ?_) (fun c_84_5581 => ?_)
          · refine lv_iload_n hx hb dX12_taken_95 rfl (lv_at hl 0 rfl) ?_
            refine lv_iload_n hx hb dX12_taken_96 rfl (lv_at hl 3 rfl) ?_
            refine lv_icmp_ne (tgt := 109) hx hb dX12_taken_97 (by decide) (fun c9 => absurd (c_84_5581) c9) (fun _ => ?_)
            refine lv_aload_n hx hb dX12_taken_100 rfl (lv_at hl 1 rfl) ?_
            refine gf_X12_75 hC rfl hK hP 0 rfl rfl dX12_taken_101 ?_
            refine lv_iload_n hx hb dX12_taken_104 rfl (lv_at hl 2 rfl) ?_
            refine ald hC hK hP 3 rfl (vp_in_nI (by omega) (by omega)) (k := jt) (nI_clamp (by omega)) (v := fnsf jt) rfl dX12_taken_105 ?_
            refine lv_topi (fun x5582 ex5582 => ?_)
            refine lv_goto (tgt := 111) hx hb dX12_taken_106 (by decide) ?_
            exact RP (v := x5582) hC (trivial) rfl dX12_taken_111
          · refine lv_iload_n hx hb dX12_taken_87 rfl (lv_at hl 0 rfl) ?_
            refine pS hC hK hl (m_above3 l G) si_X12_348 rfl rfl (Nat.le_of_ble_eq_true rfl) ⟨Nat.le_of_ble_eq_true rfl, Nat.le_of_ble_eq_true rfl⟩ ⟨by first | exact Nat.le_of_ble_eq_true rfl | exact Nat.zero_le _, by first | exact Nat.le_of_ble_eq_true rfl | exact Nat.zero_le _⟩ dX12_taken_88 (fun r5583 hr5583 => ?_)
            obtain rfl := hr5583
            refine lv_istore_n (lv' := [(3, .int 1), (0, .ref h0), (1, .int (nI jt)), (2, .int x2)]) hx hb dX12_taken_91 rfl hl (by decide) rfl (fun ls hl => ?_)
            refine lv_goto (tgt := 78) hx hb dX12_taken_92 (by decide) ?_
            refine lv_iload_n hx hb dX12_taken_78 rfl (lv_at hl 0 rfl) ?_
            refine lv_if_lt (tgt := 95) hx hb dX12_taken_79 (by decide) (fun c9 => absurd c9 (by decide)) (fun _ => ?_)
            refine lv_iload_n hx hb dX12_taken_82 rfl (lv_at hl 0 rfl) ?_
            refine lv_iload_n hx hb dX12_taken_83 rfl (lv_at hl 3 rfl) ?_
            refine lv_icmp_eq (tgt := 95) hx hb dX12_taken_84 (by decide) (fun c_84_5585 => ?_) (fun c_84_5585 => ?_)
            · refine lv_iload_n hx hb dX12_taken_95 rfl (lv_at hl 0 rfl) ?_
              refine lv_iload_n hx hb dX12_taken_96 rfl (lv_at hl 3 rfl) ?_
              refine lv_icmp_ne (tgt := 109) hx hb dX12_taken_97 (by decide) (fun c9 => absurd (c_84_5585) c9) (fun _ => ?_)
              refine lv_aload_n hx hb dX12_taken_100 rfl (lv_at hl 1 rfl) ?_
              refine gf_X12_75 hC rfl hK hP 0 rfl rfl dX12_taken_101 ?_
              refine lv_iload_n hx hb dX12_taken_104 rfl (lv_at hl 2 rfl) ?_
              refine ald hC hK hP 3 rfl (vp_in_nI (by omega) (by omega)) (k := jt) (nI_clamp (by omega)) (v := fnsf jt) rfl dX12_taken_105 ?_
              refine lv_topi (fun x5586 ex5586 => ?_)
              refine lv_goto (tgt := 111) hx hb dX12_taken_106 (by decide) ?_
              exact RP (v := x5586) hC (trivial) rfl dX12_taken_111
            · refine lv_iload_n hx hb dX12_taken_87 rfl (lv_at hl 0 rfl) ?_
              refine pS hC hK hl (m_above1 l G) si_X12_348 rfl rfl (Nat.le_of_ble_eq_true rfl) ⟨Nat.le_of_ble_eq_true rfl, Nat.le_of_ble_eq_true rfl⟩ ⟨by first | exact Nat.le_of_ble_eq_true rfl | exact Nat.zero_le _, by first | exact Nat.le_of_ble_eq_true rfl | exact Nat.zero_le _⟩ dX12_taken_88 (fun r5587 hr5587 => ?_)
              obtain rfl := hr5587
              refine lv_istore_n (lv' := [(3, .int 0), (0, .ref h0), (1, .int (nI jt)), (2, .int x2)]) hx hb dX12_taken_91 rfl hl (by decide) rfl (fun ls hl => ?_)
              refine lv_goto (tgt := 78) hx hb dX12_taken_92 (by decide) ?_
              refine lv_iload_n hx hb dX12_taken_78 rfl (lv_at hl 0 rfl) ?_
              refine lv_if_lt (tgt := 95) hx hb dX12_taken_79 (by decide) (fun c9 => absurd c9 (by decide)) (fun _ => ?_)
              refine lv_iload_n hx hb dX12_taken_82 rfl (lv_at hl 0 rfl) ?_
              refine lv_iload_n hx hb dX12_taken_83 rfl (lv_at hl 3 rfl) ?_
              refine lv_icmp_eq (tgt := 95) hx hb dX12_taken_84 (by decide) (fun c_84_5589 => ?_) (fun c_84_5589 => ?_)
              · refine lv_iload_n hx hb dX12_taken_95 rfl (lv_at hl 0 rfl) ?_
                refine lv_iload_n hx hb dX12_taken_96 rfl (lv_at hl 3 rfl) ?_
                refine lv_icmp_ne (tgt := 109) hx hb dX12_taken_97 (by decide) (fun c9 => absurd (c_84_5589) c9) (fun _ => ?_)
                refine lv_aload_n hx hb dX12_taken_100 rfl (lv_at hl 1 rfl) ?_
                refine gf_X12_75 hC rfl hK hP 0 rfl rfl dX12_taken_101 ?_
                refine lv_iload_n hx hb dX12_taken_104 rfl (lv_at hl 2 rfl) ?_
                refine ald hC hK hP 3 rfl (vp_in_nI (by omega) (by omega)) (k := jt) (nI_clamp (by omega)) (v := fnsf jt) rfl dX12_taken_105 ?_
                refine lv_topi (fun x5590 ex5590 => ?_)
                refine lv_goto (tgt := 111) hx hb dX12_taken_106 (by decide) ?_
                exact RP (v := x5590) hC (trivial) rfl dX12_taken_111
              · refine lv_iload_n hx hb dX12_taken_87 rfl (lv_at hl 0 rfl) ?_
                refine pS hC hK hl (m_above0 l G) si_X12_348 rfl rfl (Nat.le_of_ble_eq_true rfl) ⟨Nat.le_of_ble_eq_true rfl, Nat.le_of_ble_eq_true rfl⟩ ⟨by first | exact Nat.le_of_ble_eq_true rfl | exact Nat.zero_le _, by first | exact Nat.le_of_ble_eq_true rfl | exact Nat.zero_le _⟩ dX12_taken_88 (fun r5591 hr5591 => ?_)
                obtain rfl := hr5591
                refine lv_istore_n (lv' := [(3, .int (-1)), (0, .ref h0), (1, .int (nI jt)), (2, .int x2)]) hx hb dX12_taken_91 rfl hl (by decide) rfl (fun ls hl => ?_)
                refine lv_goto (tgt := 78) hx hb dX12_taken_92 (by decide) ?_
                refine lv_iload_n hx hb dX12_taken_78 rfl (lv_at hl 0 rfl) ?_
                refine lv_if_lt (tgt := 95) hx hb dX12_taken_79 (by decide) (fun _ => ?_) (fun c9 => absurd (by decide) c9)
                refine lv_iload_n hx hb dX12_taken_95 rfl (lv_at hl 0 rfl) ?_
                refine lv_iload_n hx hb dX12_taken_96 rfl (lv_at hl 3 rfl) ?_
                refine lv_icmp_ne (tgt := 109) hx hb dX12_taken_97 (by decide) (fun c_97_5593 => ?_) (fun c_97_5593 => ?_)
                · refine lv_bipush (v := (-13)) hx hb dX12_taken_109 (by decide) ?_
                  exact RP (v := (-13)) hC (trivial) rfl dX12_taken_111
                · refine lv_aload_n hx hb dX12_taken_100 rfl (lv_at hl 1 rfl) ?_
                  refine gf_X12_75 hC rfl hK hP 0 rfl rfl dX12_taken_101 ?_
                  refine lv_iload_n hx hb dX12_taken_104 rfl (lv_at hl 2 rfl) ?_
                  refine ald hC hK hP 3 rfl (vp_in_nI (by omega) (by omega)) (k := jt) (nI_clamp (by omega)) (v := fnsf jt) rfl dX12_taken_105 ?_
                  refine lv_topi (fun x5594 ex5594 => ?_)
                  refine lv_goto (tgt := 111) hx hb dX12_taken_106 (by decide) ?_
                  exact RP (v := x5594) hC (trivial) rfl dX12_taken_111
        · refine lv_istore_n (lv' := [(3, .int 4), (0, .ref h0), (1, .int (nI jt)), (2, .int x2)]) hx hb dX12_taken_70 rfl hl (by decide) rfl (fun ls hl => ?_)
          refine lv_iload_n hx hb dX12_taken_71 rfl (lv_at hl 0 rfl) ?_
          refine lv_if_ge (tgt := 78) hx hb dX12_taken_72 (by decide) (fun _ => ?_) (fun c9 => absurd (by decide) c9)
          refine lv_iload_n hx hb dX12_taken_78 rfl (lv_at hl 0 rfl) ?_
          refine lv_if_lt (tgt := 95) hx hb dX12_taken_79 (by decide) (fun c9 => absurd c9 (by decide)) (fun _ => ?_)
          refine lv_iload_n hx hb dX12_taken_82 rfl (lv_at hl 0 rfl) ?_
          refine lv_iload_n hx hb dX12_taken_83 rfl (lv_at hl 3 rfl) ?_
          refine lv_icmp_eq (tgt := 95) hx hb dX12_taken_84 (by decide) (fun c_84_5595 => ?_) (fun c_84_5595 => ?_)
          · refine lv_iload_n hx hb dX12_taken_95 rfl (lv_at hl 0 rfl) ?_
            refine lv_iload_n hx hb dX12_taken_96 rfl (lv_at hl 3 rfl) ?_
            refine lv_icmp_ne (tgt := 109) hx hb dX12_taken_97 (by decide) (fun c9 => absurd (c_84_5595) c9) (fun _ => ?_)
            refine lv_aload_n hx hb dX12_taken_100 rfl (lv_at hl 1 rfl) ?_
            refine gf_X12_75 hC rfl hK hP 0 rfl rfl dX12_taken_101 ?_
            refine lv_iload_n hx hb dX12_taken_104 rfl (lv_at hl 2 rfl) ?_
            refine ald hC hK hP 3 rfl (vp_in_nI (by omega) (by omega)) (k := jt) (nI_clamp (by omega)) (v := fnsf jt) rfl dX12_taken_105 ?_
            refine lv_topi (fun x5596 ex5596 => ?_)
            refine lv_goto (tgt := 111) hx hb dX12_taken_106 (by decide) ?_
            exact RP (v := x5596) hC (trivial) rfl dX12_taken_111
          · refine lv_iload_n hx hb dX12_taken_87 rfl (lv_at hl 0 rfl) ?_
            refine pS hC hK hl (m_above4 l G) si_X12_348 rfl rfl (Nat.le_of_ble_eq_true rfl) ⟨Nat.le_of_ble_eq_true rfl, Nat.le_of_ble_eq_true rfl⟩ ⟨by first | exact Nat.le_of_ble_eq_true rfl | exact Nat.zero_le _, by first | exact Nat.le_of_ble_eq_true rfl | exact Nat.zero_le _⟩ dX12_taken_88 (fun r5597 hr5597 => ?_)
            obtain rfl := hr5597
            refine lv_istore_n (lv' := [(3, .int 0), (0, .ref h0), (1, .int (nI jt)), (2, .int x2)]) hx hb dX12_taken_91 rfl hl (by decide) rfl (fun ls hl => ?_)
            refine lv_goto (tgt := 78) hx hb dX12_taken_92 (by decide) ?_
            refine lv_iload_n hx hb dX12_taken_78 rfl (lv_at hl 0 rfl) ?_
            refine lv_if_lt (tgt := 95) hx hb dX12_taken_79 (by decide) (fun c9 => absurd c9 (by decide)) (fun _ => ?_)
            refine lv_iload_n hx hb dX12_taken_82 rfl (lv_at hl 0 rfl) ?_
            refine lv_iload_n hx hb dX12_taken_83 rfl (lv_at hl 3 rfl) ?_
            refine lv_icmp_eq (tgt := 95) hx hb dX12_taken_84 (by decide) (fun c_84_5599 => ?_) (fun c_84_5599 => ?_)
            · refine lv_iload_n hx hb dX12_taken_95 rfl (lv_at hl 0 rfl) ?_
              refine lv_iload_n hx hb dX12_taken_96 rfl (lv_at hl 3 rfl) ?_
              refine lv_icmp_ne (tgt := 109) hx hb dX12_taken_97 (by decide) (fun c9 => absurd (c_84_5599) c9) (fun _ => ?_)
              refine lv_aload_n hx hb dX12_taken_100 rfl (lv_at hl 1 rfl) ?_
              refine gf_X12_75 hC rfl hK hP 0 rfl rfl dX12_taken_101 ?_
              refine lv_iload_n hx hb dX12_taken_104 rfl (lv_at hl 2 rfl) ?_
              refine ald hC hK hP 3 rfl (vp_in_nI (by omega) (by omega)) (k := jt) (nI_clamp (by omega)) (v := fnsf jt) rfl dX12_taken_105 ?_
              refine lv_topi (fun x5600 ex5600 => ?_)
              refine lv_goto (tgt := 111) hx hb dX12_taken_106 (by decide) ?_
              exact RP (v := x5600) hC (trivial) rfl dX12_taken_111
            · refine lv_iload_n hx hb dX12_taken_87 rfl (lv_at hl 0 rfl) ?_
              refine pS hC hK hl (m_above0 l G) si_X12_348 rfl rfl (Nat.le_of_ble_eq_true rfl) ⟨Nat.le_of_ble_eq_true rfl, Nat.le_of_ble_eq_true rfl⟩ ⟨by first | exact Nat.le_of_ble_eq_true rfl | exact Nat.zero_le _, by first | exact Nat.le_of_ble_eq_true rfl | exact Nat.zero_le _⟩ dX12_taken_88 (fun r5601 hr5601 => ?_)
              obtain rfl := hr5601
              refine lv_istore_n (lv' := [(3, .int (-1)), (0, .ref h0), (1, .int (nI jt)), (2, .int x2)]) hx hb dX12_taken_91 rfl hl (by decide) rfl (fun ls hl => ?_)
              refine lv_goto (tgt := 78) hx hb dX12_taken_92 (by decide) ?_
              refine lv_iload_n hx hb dX12_taken_78 rfl (lv_at hl 0 rfl) ?_
              refine lv_if_lt (tgt := 95) hx hb dX12_taken_79 (by decide) (fun _ => ?_) (fun c9 => absurd (by decide) c9)
              refine lv_iload_n hx hb dX12_taken_95 rfl (lv_at hl 0 rfl) ?_
              refine lv_iload_n hx hb dX12_taken_96 rfl (lv_at hl 3 rfl) ?_
              refine lv_icmp_ne (tgt := 109) hx hb dX12_taken_97 (by decide) (fun c_97_5603 => ?_) (fun c_97_5603 => ?_)
              · refine lv_bipush (v := (-13)) hx hb dX12_taken_109 (by decide) ?_
                exact RP (v := (-13)) hC (trivial) rfl dX12_taken_111
              · refine lv_aload_n hx hb dX12_taken_100 rfl (lv_at hl 1 rfl) ?_
                refine gf_X12_75 hC rfl hK hP 0 rfl rfl dX12_taken_101 ?_
                refine lv_iload_n hx hb dX12_taken_104 rfl (lv_at hl 2 rfl) ?_
                refine ald hC hK hP 3 rfl (vp_in_nI (by omega) (by omega)) (k := jt) (nI_clamp (by omega)) (v := fnsf jt) rfl dX12_taken_105 ?_
                refine lv_topi (fun x5604 ex5604 => ?_)
                refine lv_goto (tgt := 111) hx hb dX12_taken_106 (by decide) ?_
                exact RP (v := x5604) hC (trivial) rfl dX12_taken_111
        · refine lv_istore_n (lv' := [(3, .int 5), (0, .ref h0), (1, .int (nI jt)), (2, .int x2)]) hx hb dX12_taken_70 rfl hl (by decide) rfl (fun ls hl => ?_)
          refine lv_iload_n hx hb dX12_taken_71 rfl (lv_at hl 0 rfl) ?_
          refine lv_if_ge (tgt := 78) hx hb dX12_taken_72 (by decide) (fun _ => ?_) (fun c9 => absurd (by decide) c9)
          refine lv_iload_n hx hb dX12_taken_78 rfl (lv_at hl 0 rfl) ?_
          refine lv_if_lt (tgt := 95) hx hb dX12_taken_79 (by decide) (fun c9 => absurd c9 (by decide)) (fun _ => ?_)
          refine lv_iload_n hx hb dX12_taken_82 rfl (lv_at hl 0 rfl) ?_
          refine lv_iload_n hx hb dX12_taken_83 rfl (lv_at hl 3 rfl) ?_
          refine lv_icmp_eq (tgt := 95) hx hb dX12_taken_84 (by decide) (fun c_84_5605 => ?_) (fun c_84_5605 => ?_)
          · refine lv_iload_n hx hb dX12_taken_95 rfl (lv_at hl 0 rfl) ?_
            refine lv_iload_n hx hb dX12_taken_96 rfl (lv_at hl 3 rfl) ?_
            refine lv_icmp_ne (tgt := 109) hx hb dX12_taken_97 (by decide) (fun c9 => absurd (c_84_5605) c9) (fun _ => ?_)
            refine lv_aload_n hx hb dX12_taken_100 rfl (lv_at hl 1 rfl) ?_
            refine gf_X12_75 hC rfl hK hP 0 rfl rfl dX12_taken_101 ?_
            refine lv_iload_n hx hb dX12_taken_104 rfl (lv_at hl 2 rfl) ?_
            refine ald hC hK hP 3 rfl (vp_in_nI (by omega) (by omega)) (k := jt) (nI_clamp (by omega)) (v := fnsf jt) rfl dX12_taken_105 ?_
            refine lv_topi (fun x5606 ex5606 => ?_)
            refine lv_goto (tgt := 111) hx hb dX12_taken_106 (by decide) ?_
            exact RP (v := x5606) hC (trivial) rfl dX12_taken_111
          · refine lv_iload_n hx hb dX12_taken_87 rfl (lv_at hl 0 rfl) ?_
            refine pS hC hK hl (m_above5 l G) si_X12_348 rfl rfl (Nat.le_of_ble_eq_true rfl) ⟨Nat.le_of_ble_eq_true rfl, Nat.le_of_ble_eq_true rfl⟩ ⟨by first | exact Nat.le_of_ble_eq_true rfl | exact Nat.zero_le _, by first | exact Nat.le_of_ble_eq_true rfl | exact Nat.zero_le _⟩ dX12_taken_88 (fun r5607 hr5607 => ?_)
            obtain rfl := hr5607
            refine lv_istore_n (lv' := [(3, .int 4), (0, .ref h0), (1, .int (nI jt)), (2, .int x2)]) hx hb dX12_taken_91 rfl hl (by decide) rfl (fun ls hl => ?_)
            refine lv_goto (tgt := 78) hx hb dX12_taken_92 (by decide) ?_
            refine lv_iload_n hx hb dX12_taken_78 rfl (lv_at hl 0 rfl) ?_
            refine lv_if_lt (tgt := 95) hx hb dX12_taken_79 (by decide) (fun c9 => absurd c9 (by decide)) (fun _ => ?_)
            refine lv_iload_n hx hb dX12_taken_82 rfl (lv_at hl 0 rfl) ?_
            refine lv_iload_n hx hb dX12_taken_83 rfl (lv_at hl 3 rfl) ?_
            refine lv_icmp_eq (tgt := 95) hx hb dX12_taken_84 (by decide) (fun c_84_5609 => ?_) (fun c_84_5609 => ?_)
            · refine lv_iload_n hx hb dX12_taken_95 rfl (lv_at hl 0 rfl) ?_
              refine lv_iload_n hx hb dX12_taken_96 rfl (lv_at hl 3 rfl) ?_
              refine lv_icmp_ne (tgt := 109) hx hb dX12_taken_97 (by decide) (fun c9 => absurd (c_84_5609) c9) (fun _ => ?_)
              refine lv_aload_n hx hb dX12_taken_100 rfl (lv_at hl 1 rfl) ?_
              refine gf_X12_75 hC rfl hK hP 0 rfl rfl dX12_taken_101 ?_
              refine lv_iload_n hx hb dX12_taken_104 rfl (lv_at hl 2 rfl) ?_
              refine ald hC hK hP 3 rfl (vp_in_nI (by omega) (by omega)) (k := jt) (nI_clamp (by omega)) (v := fnsf jt) rfl dX12_taken_105 ?_
              refine lv_topi (fun x5610 ex5610 => ?_)
              refine lv_goto (tgt := 111) hx hb dX12_taken_106 (by decide) ?_
              exact RP (v := x5610) hC (trivial) rfl dX12_taken_111
            · refine lv_iload_n hx hb dX12_taken_87 rfl (lv_at hl 0 rfl) ?_
              refine pS hC hK hl (m_above4 l G) si_X12_348 rfl rfl (Nat.le_of_ble_eq_true rfl) ⟨Nat.le_of_ble_eq_true rfl, Nat.le_of_ble_eq_true rfl⟩ ⟨by first | exact Nat.le_of_ble_eq_true rfl | exact Nat.zero_le _, by first | exact Nat.le_of_ble_eq_true rfl | exact Nat.zero_le _⟩ dX12_taken_88 (fun r5611 hr5611 => ?_)
              obtain rfl := hr5611
              refine lv_istore_n (lv' := [(3, .int 0), (0, .ref h0), (1, .int (nI jt)), (2, .int x2)]) hx hb dX12_taken_91 rfl hl (by decide) rfl (fun ls hl => ?_)
              refine lv_goto (tgt := 78) hx hb dX12_taken_92 (by decide) ?_
              refine lv_iload_n hx hb dX12_taken_78 rfl (lv_at hl 0 rfl) ?_
              refine lv_if_lt (tgt := 95) hx hb dX12_taken_79 (by decide) (fun c9 => absurd c9 (by decide)) (fun _ => ?_)
              refine lv_iload_n hx hb dX12_taken_82 rfl (lv_at hl 0 rfl) ?_
              refine lv_iload_n hx hb dX12_taken_83 rfl (lv_at hl 3 rfl) ?_
              refine lv_icmp_eq (tgt := 95) hx hb dX12_taken_84 (by decide) (fun c_84_5613 => ?_) (fun c_84_5613 => ?_)
              · refine lv_iload_n hx hb dX12_taken_95 rfl (lv_at hl 0 rfl) ?_
                refine lv_iload_n hx hb dX12_taken_96 rfl (lv_at hl 3 rfl) ?_
                refine lv_icmp_ne (tgt := 109) hx hb dX12_taken_97 (by decide) (fun c9 => absurd (c_84_5613) c9) (fun _ => ?_)
                refine lv_aload_n hx hb dX12_taken_100 rfl (lv_at hl 1 rfl) ?_
                refine gf_X12_75 hC rfl hK hP 0 rfl rfl dX12_taken_101 ?_
                refine lv_iload_n hx hb dX12_taken_104 rfl (lv_at hl 2 rfl) ?_
                refine ald hC hK hP 3 rfl (vp_in_nI (by omega) (by omega)) (k := jt) (nI_clamp (by omega)) (v := fnsf jt) rfl dX12_taken_105 ?_
                refine lv_topi (fun x5614 ex5614 => ?_)
                refine lv_goto (tgt := 111) hx hb dX12_taken_106 (by decide) ?_
                exact RP (v := x5614) hC (trivial) rfl dX12_taken_111
              · refine lv_iload_n hx hb dX12_taken_87 rfl (lv_at hl 0 rfl) ?_
                refine pS hC hK hl (m_above0 l G) si_X12_348 rfl rfl (Nat.le_of_ble_eq_true rfl) ⟨Nat.le_of_ble_eq_true rfl, Nat.le_of_ble_eq_true rfl⟩ ⟨by first | exact Nat.le_of_ble_eq_true rfl | exact Nat.zero_le _, by first | exact Nat.le_of_ble_eq_true rfl | exact Nat.zero_le _⟩ dX12_taken_88 (fun r5615 hr5615 => ?_)
                obtain rfl := hr5615
                refine lv_istore_n (lv' := [(3, .int (-1)), (0, .ref h0), (1, .int (nI jt)), (2, .int x2)]) hx hb dX12_taken_91 rfl hl (by decide) rfl (fun ls hl => ?_)
                refine lv_goto (tgt := 78) hx hb dX12_taken_92 (by decide) ?_
                refine lv_iload_n hx hb dX12_taken_78 rfl (lv_at hl 0 rfl) ?_
                refine lv_if_lt (tgt := 95) hx hb dX12_taken_79 (by decide) (fun _ => ?_) (fun c9 => absurd (by decide) c9)
                refine lv_iload_n hx hb dX12_taken_95 rfl (lv_at hl 0 rfl) ?_
                refine lv_iload_n hx hb dX12_taken_96 rfl (lv_at hl 3 rfl) ?_
                refine lv_icmp_ne (tgt := 109) hx hb dX12_taken_97 (by decide) (fun c_97_5617 => ?_) (fun c_97_5617 => ?_)
                · refine lv_bipush (v := (-13)) hx hb dX12_taken_109 (by decide) ?_
                  exact RP (v := (-13)) hC (trivial) rfl dX12_taken_111
                · refine lv_aload_n hx hb dX12_taken_100 rfl (lv_at hl 1 rfl) ?_
                  refine gf_X12_75 hC rfl hK hP 0 rfl rfl dX12_taken_101 ?_
                  refine lv_iload_n hx hb dX12_taken_104 rfl (lv_at hl 2 rfl) ?_
                  refine ald hC hK hP 3 rfl (vp_in_nI (by omega) (by omega)) (k := jt) (nI_clamp (by omega)) (v := fnsf jt) rfl dX12_taken_105 ?_
                  refine lv_topi (fun x5618 ex5618 => ?_)
                  refine lv_goto (tgt := 111) hx hb dX12_taken_106 (by decide) ?_
                  exact RP (v := x5618) hC (trivial) rfl dX12_taken_111
        · refine lv_istore_n (lv' := [(3, .int 6), (0, .ref h0), (1, .int (nI jt)), (2, .int x2)]) hx hb dX12_taken_70 rfl hl (by decide) rfl (fun ls hl => ?_)
          refine lv_iload_n hx hb dX12_taken_71 rfl (lv_at hl 0 rfl) ?_
          refine lv_if_ge (tgt := 78) hx hb dX12_taken_72 (by decide) (fun _ => ?_) (fun c9 => absurd (by decide) c9)
          refine lv_iload_n hx hb dX12_taken_78 rfl (lv_at hl 0 rfl) ?_
          refine lv_if_lt (tgt := 95) hx hb dX12_taken_79 (by decide) (fun c9 => absurd c9 (by decide)) (fun _ => ?_)
          refine lv_iload_n hx hb dX12_taken_82 rfl (lv_at hl 0 rfl) ?_
          refine lv_iload_n hx hb dX12_taken_83 rfl (lv_at hl 3 rfl) ?_
          refine lv_icmp_eq (tgt := 95) hx hb dX12_taken_84 (by decide) (fun c_84_5619 => ?_) (fun c_84_5619 => ?_)
          · refine lv_iload_n hx hb dX12_taken_95 rfl (lv_at hl 0 rfl) ?_
            refine lv_iload_n hx hb dX12_taken_96 rfl (lv_at hl 3 rfl) ?_
            refine lv_icmp_ne (tgt := 109) hx hb dX12_taken_97 (by decide) (fun c9 => absurd (c_84_5619) c9) (fun _ => ?_)
            refine lv_aload_n hx hb dX12_taken_100 rfl (lv_at hl 1 rfl) ?_
            refine gf_X12_75 hC rfl hK hP 0 rfl rfl dX12_taken_101 ?_
            refine lv_iload_n hx hb dX12_taken_104 rfl (lv_at hl 2 rfl) ?_
            refine ald hC hK hP 3 rfl (vp_in_nI (by omega) (by omega)) (k := jt) (nI_clamp (by omega)) (v := fnsf jt) rfl dX12_taken_105 ?_
            refine lv_topi (fun x5620 ex5620 => ?_)
            refine lv_goto (tgt := 111) hx hb dX12_taken_106 (by decide) ?_
            exact RP (v := x5620) hC (trivial) rfl dX12_taken_111
          · refine lv_iload_n hx hb dX12_taken_87 rfl (lv_at hl 0 rfl) ?_
            refine pS hC hK hl (m_above6 l G) si_X12_348 rfl rfl (Nat.le_of_ble_eq_true rfl) ⟨Nat.le_of_ble_eq_true rfl, Nat.le_of_ble_eq_true rfl⟩ ⟨by first | exact Nat.le_of_ble_eq_true rfl | exact Nat.zero_le _, by first | exact Nat.le_of_ble_eq_true rfl | exact Nat.zero_le _⟩ dX12_taken_88 (fun r5621 hr5621 => ?_)
            obtain rfl := hr5621
            refine lv_istore_n (lv' := [(3, .int 0), (0, .ref h0), (1, .int (nI jt)), (2, .int x2)]) hx hb dX12_taken_91 rfl hl (by decide) rfl (fun ls hl => ?_)
            refine lv_goto (tgt := 78) hx hb dX12_taken_92 (by decide) ?_
            refine lv_iload_n hx hb dX12_taken_78 rfl (lv_at hl 0 rfl) ?_
            refine lv_if_lt (tgt := 95) hx hb dX12_taken_79 (by decide) (fun c9 => absurd c9 (by decide)) (fun _ => ?_)
            refine lv_iload_n hx hb dX12_taken_82 rfl (lv_at hl 0 rfl) ?_
            refine lv_iload_n hx hb dX12_taken_83 rfl (lv_at hl 3 rfl) ?_
            refine lv_icmp_eq (tgt := 95) hx hb dX12_taken_84 (by decide) (fun c_84_5623 => ?_) (fun c_84_5623 => ?_)
            · refine lv_iload_n hx hb dX12_taken_95 rfl (lv_at hl 0 rfl) ?_
              refine lv_iload_n hx hb dX12_taken_96 rfl (lv_at hl 3 rfl) ?_
              refine lv_icmp_ne (tgt := 109) hx hb dX12_taken_97 (by decide) (fun c9 => absurd (c_84_5623) c9) (fun _ => ?_)
              refine lv_aload_n hx hb dX12_taken_100 rfl (lv_at hl 1 rfl) ?_
              refine gf_X12_75 hC rfl hK hP 0 rfl rfl dX12_taken_101 ?_
              refine lv_iload_n hx hb dX12_taken_104 rfl (lv_at hl 2 rfl) ?_
              refine ald hC hK hP 3 rfl (vp_in_nI (by omega) (by omega)) (k := jt) (nI_clamp (by omega)) (v := fnsf jt) rfl dX12_taken_105 ?_
              refine lv_topi (fun x5624 ex5624 => ?_)
              refine lv_goto (tgt := 111) hx hb dX12_taken_106 (by decide) ?_
              exact RP (v := x5624) hC (trivial) rfl dX12_taken_111
            · refine lv_iload_n hx hb dX12_taken_87 rfl (lv_at hl 0 rfl) ?_
              refine pS hC hK hl (m_above0 l G) si_X12_348 rfl rfl (Nat.le_of_ble_eq_true rfl) ⟨Nat.le_of_ble_eq_true rfl, Nat.le_of_ble_eq_true rfl⟩ ⟨by first | exact Nat.le_of_ble_eq_true rfl | exact Nat.zero_le _, by first | exact Nat.le_of_ble_eq_true rfl | exact Nat.zero_le _⟩ dX12_taken_88 (fun r5625 hr5625 => ?_)
              obtain rfl := hr5625
              refine lv_istore_n (lv' := [(3, .int (-1)), (0, .ref h0), (1, .int (nI jt)), (2, .int x2)]) hx hb dX12_taken_91 rfl hl (by decide) rfl (fun ls hl => ?_)
              refine lv_goto (tgt := 78) hx hb dX12_taken_92 (by decide) ?_
              refine lv_iload_n hx hb dX12_taken_78 rfl (lv_at hl 0 rfl) ?_
              refine lv_if_lt (tgt := 95) hx hb dX12_taken_79 (by decide) (fun _ => ?_) (fun c9 => absurd (by decide) c9)
              refine lv_iload_n hx hb dX12_taken_95 rfl (lv_at hl 0 rfl) ?_
              refine lv_iload_n hx hb dX12_taken_96 rfl (lv_at hl 3 rfl) ?_
              refine lv_icmp_ne (tgt := 109) hx hb dX12_taken_97 (by decide) (fun c_97_5627 => ?_) (fun c_97_5627 => ?_)
              · refine lv_bipush (v := (-13)) hx hb dX12_taken_109 (by decide) ?_
                exact RP (v := (-13)) hC (trivial) rfl dX12_taken_111
              · refine lv_aload_n hx hb dX12_taken_100 rfl (lv_at hl 1 rfl) ?_
                refine gf_X12_75 hC rfl hK hP 0 rfl rfl dX12_taken_101 ?_
                refine lv_iload_n hx hb dX12_taken_104 rfl (lv_at hl 2 rfl) ?_
                refine ald hC hK hP 3 rfl (vp_in_nI (by omega) (by omega)) (k := jt) (nI_clamp (by omega)) (v := fnsf jt) rfl dX12_taken_105 ?_
                refine lv_topi (fun x5628 ex5628 => ?_)
                refine lv_goto (tgt := 111) hx hb dX12_taken_106 (by decide) ?_
                exact RP (v := x5628) hC (trivial) rfl dX12_taken_111
      · refine lv_iload_n hx hb dX12_taken_40 rfl (lv_at hl 2 rfl) ?_
        refine lv_bipush (v := 10) hx hb dX12_taken_41 (by decide) ?_
        refine lv_isub hx hb dX12_taken_43 ?_
        refine lv_aload_n hx hb dX12_taken_44 rfl (lv_at hl 0 rfl) ?_
        refine gf_X12_75 hC rfl hK hP 0 rfl rfl dX12_taken_45 ?_
        refine lv_iload_n hx hb dX12_taken_48 rfl (lv_at hl 1 rfl) ?_
        refine ald hC hK hP 3 rfl (vp_in_nI (by omega) (by omega)) (k := jt) (nI_clamp (by omega)) (v := fnsf jt) rfl dX12_taken_49 ?_
        refine lv_topi (fun x5629 ex5629 => ?_)
        refine lv_icmp_ne (tgt := 62) hx hb dX12_taken_50 (by decide) (fun c_50_5630 => ?_) (fun c_50_5630 => ?_)
        · refine lv_bipush (v := (-13)) hx hb dX12_taken_62 (by decide) ?_
          exact RP (v := (-13)) hC (trivial) rfl dX12_taken_64
        · refine lv_aload_n hx hb dX12_taken_53 rfl (lv_at hl 0 rfl) ?_
          refine gf_X12_78 hC rfl hK hP 0 rfl rfl dX12_taken_54 ?_
          refine lv_iload_n hx hb dX12_taken_57 rfl (lv_at hl 1 rfl) ?_
          refine ald hC hK hP 4 rfl (vp_in_nI (by omega) (by omega)) (k := jt) (nI_clamp (by omega)) (v := fnss jt) rfl dX12_taken_58 ?_
          refine lv_topi (fun x5631 ex5631 => ?_)
          refine lv_goto (tgt := 64) hx hb dX12_taken_59 (by decide) ?_
          exact RP (v := x5631) hC (trivial) rfl dX12_taken_64
    · refine lv_if_ne (tgt := 30) hx hb dX12_taken_14 (by decide) (fun c9 => absurd (by decide) c9) (fun _ => ?_)
      refine lv_iload_n hx hb dX12_taken_17 rfl (lv_at hl 2 rfl) ?_
      refine lv_bipush (v := 10) hx hb dX12_taken_18 (by decide) ?_
      refine lv_bipush (v := 14) hx hb dX12_taken_20 (by decide) ?_
      refine pS hC hK hl (m_within l G x2 10 14) si_X12_84 rfl rfl (Nat.le_of_ble_eq_true rfl) ⟨Nat.le_of_ble_eq_true rfl, Nat.le_of_ble_eq_true rfl⟩ ⟨by first | exact Nat.le_of_ble_eq_true rfl | exact Nat.zero_le _, by first | exact Nat.le_of_ble_eq_true rfl | exact Nat.zero_le _⟩ dX12_taken_22 (fun r5632 hr5632 => ?_)
      rcases hr5632 with ⟨rfl, a5633⟩ | ⟨rfl, a5633⟩
      · refine lv_if_ne (tgt := 30) hx hb dX12_taken_25 (by decide) (fun _ => ?_) (fun c9 => absurd c9 (by decide))
        obtain ⟨jt, hjt, rfl⟩ := Wi_nat (N := 3) (by decide) a5554
        refine lv_aload_n hx hb dX12_taken_30 rfl (lv_at hl 0 rfl) ?_
        refine gf_X12_72 hC rfl hK hP 0 rfl rfl dX12_taken_31 ?_
        refine lv_iload_n hx hb dX12_taken_34 rfl (lv_at hl 1 rfl) ?_
        refine ald hC hK hP 2 rfl (vp_in_nI (by omega) (by omega)) (k := jt) (nI_clamp (by omega)) (v := fnsh jt) rfl dX12_taken_35 ?_
        refine lv_topi (fun x5634 ex5634 => ?_)
        refine lv_iconst (v := 4) hx hb dX12_taken_36 (by decide) ?_
        refine lv_icmp_ne (tgt := 65) hx hb dX12_taken_37 (by decide) (fun c_37_5635 => ?_) (fun c_37_5635 => ?_)
        · refine lv_aload_n hx hb dX12_taken_65 rfl (lv_at hl 0 rfl) ?_
          refine lv_iload_n hx hb dX12_taken_66 rfl (lv_at hl 1 rfl) ?_
          refine pV hC hK hl hP hD (m_kindOn l G h0 jt nw nk mhasKept nt mtaped nr mrowMany mroundOf mroundFrom mouts nm mfromHour mtoHour ns mfrom mto msort misFault mdeep mcoded mlines nl nc nF np ntr nb mbestCost nso nsi nit nsh nsf nss nrc mtraced mdealer mnumber mwhose msize misParted fnw fnsh fnsf (by omega) (hN)) si_X12_345 [0, 1, 2, 3] rfl rfl (by decide) rfl rfl rfl rfl rfl (Nat.le_of_ble_eq_true rfl) ⟨Nat.le_of_ble_eq_true rfl, Nat.le_of_ble_eq_true rfl⟩ ⟨by first | exact Nat.le_of_ble_eq_true rfl | exact Nat.zero_le _, by first | exact Nat.le_of_ble_eq_true rfl | exact Nat.zero_le _⟩ dX12_taken_67 (fun r5636 hr5636 => ?_)
          rcases hr5636 with rfl | ⟨rfl, a5637⟩ | ⟨rfl, a5637⟩ | ⟨rfl, a5637⟩ | ⟨rfl, a5637⟩ | ⟨rfl, a5637⟩ | ⟨rfl, a5637⟩
          · refine lv_istore_n (lv' := [(3, .int (-1)), (0, .ref h0), (1, .int (nI jt)), (2, .int x2)]) hx hb dX12_taken_70 rfl hl (by decide) rfl (fun ls hl => ?_)
            refine lv_iload_n hx hb dX12_taken_71 rfl (lv_at hl 0 rfl) ?_
            refine lv_if_ge (tgt := 78) hx hb dX12_taken_72 (by decide) (fun c9 => absurd c9 (by decide)) (fun _ => ?_)
            refine lv_bipush (v := (-11)) hx hb dX12_taken_75 (by decide) ?_
            exact RP (v := (-11)) hC (trivial) rfl dX12_taken_77
          · refine lv_istore_n (lv' := [(3, .int 1), (0, .ref h0), (1, .int (nI jt)), (2, .int x2)]) hx hb dX12_taken_70 rfl hl (by decide) rfl (fun ls hl => ?_)
            refine lv_iload_n hx hb dX12_taken_71 rfl (lv_at hl 0 rfl) ?_
            refine lv_if_ge (tgt := 78) hx hb dX12_taken_72 (by decide) (fun _ => ?_) (fun c9 => absurd (by decide) c9)
            refine lv_iload_n hx hb dX12_taken_78 rfl (lv_at hl 0 rfl) ?_
            refine lv_if_lt (tgt := 95) hx hb dX12_taken_79 (by decide) (fun c9 => absurd c9 (by decide)) (fun _ => ?_)
            refine lv_iload_n hx hb dX12_taken_82 rfl (lv_at hl 0 rfl) ?_
            refine lv_iload_n hx hb dX12_taken_83 rfl (lv_at hl 3 rfl) ?_
            refine lv_icmp_eq (tgt := 95) hx hb dX12_taken_84 (by decide) (fun c_84_5638 => ?_) (fun c_84_5638 => ?_)
            · refine lv_iload_n hx hb dX12_taken_95 rfl (lv_at hl 0 rfl) ?_
              refine lv_iload_n hx hb dX12_taken_96 rfl (lv_at hl 3 rfl) ?_
              refine lv_icmp_ne (tgt := 109) hx hb dX12_taken_97 (by decide) (fun c9 => absurd (c_84_5638) c9) (fun _ => ?_)
              refine lv_aload_n hx hb dX12_taken_100 rfl (lv_at hl 1 rfl) ?_
              refine gf_X12_75 hC rfl hK hP 0 rfl rfl dX12_taken_101 ?_
              refine lv_iload_n hx hb dX12_taken_104 rfl (lv_at hl 2 rfl) ?_
              refine ald hC hK hP 3 rfl (vp_in_nI (by omega) (by omega)) (k := jt) (nI_clamp (by omega)) (v := fnsf jt) rfl dX12_taken_105 ?_
              refine lv_topi (fun x5639 ex5639 => ?_)
              refine lv_goto (tgt := 111) hx hb dX12_taken_106 (by decide) ?_
              exact RP (v := x5639) hC (trivial) rfl dX12_taken_111
            · refine lv_iload_n hx hb dX12_taken_87 rfl (lv_at hl 0 rfl) ?_
              refine pS hC hK hl (m_above1 l G) si_X12_348 rfl rfl (Nat.le_of_ble_eq_true rfl) ⟨Nat.le_of_ble_eq_true rfl, Nat.le_of_ble_eq_true rfl⟩ ⟨by first | exact Nat.le_of_ble_eq_true rfl | exact Nat.zero_le _, by first | exact Nat.le_of_ble_eq_true rfl | exact Nat.zero_le _⟩ dX12_taken_88 (fun r5640 hr5640 => ?_)
              obtain rfl := hr5640
              refine lv_istore_n (lv' := [(3, .int 0), (0, .ref h0), (1, .int (nI jt)), (2, .int x2)]) hx hb dX12_taken_91 rfl hl (by decide) rfl (fun ls hl => ?_)
              refine lv_goto (tgt := 78) hx hb dX12_taken_92 (by decide) ?_
              refine lv_iload_n hx hb dX12_taken_78 rfl (lv_at hl 0 rfl) ?_
              refine lv_if_lt (tgt := 95) hx hb dX12_taken_79 (by decide) (fun c9 => absurd c9 (by decide)) (fun _ => ?_)
              refine lv_iload_n hx hb dX12_taken_82 rfl (lv_at hl 0 rfl) ?_
              refine lv_iload_n hx hb dX12_taken_83 rfl (lv_at hl 3 rfl) ?_
              refine lv_icmp_eq (tgt := 95) hx hb dX12_taken_84 (by decide) (fun c_84_5642 => ?_) (fun c_84_5642 => ?_)
              · refine lv_iload_n hx hb dX12_taken_95 rfl (lv_at hl 0 rfl) ?_
                refine lv_iload_n hx hb dX12_taken_96 rfl (lv_at hl 3 rfl) ?_
                refine lv_icmp_ne (tgt := 109) hx hb dX12_taken_97 (by decide) (fun c9 => absurd (c_84_5642) c9) (fun _ => ?_)
                refine lv_aload_n hx hb dX12_taken_100 rfl (lv_at hl 1 rfl) ?_
                refine gf_X12_75 hC rfl hK hP 0 rfl rfl dX12_taken_101 ?_
                refine lv_iload_n hx hb dX12_taken_104 rfl (lv_at hl 2 rfl) ?_
                refine ald hC hK hP 3 rfl (vp_in_nI (by omega) (by omega)) (k := jt) (nI_clamp (by omega)) (v := fnsf jt) rfl dX12_taken_105 ?_
                refine lv_topi (fun x5643 ex5643 => ?_)
                refine lv_goto (tgt := 111) hx hb dX12_taken_106 (by decide) ?_
                exact RP (v := x5643) hC (trivial) rfl dX12_taken_111
              · refine lv_iload_n hx hb dX12_taken_87 rfl (lv_at hl 0 rfl) ?_
                refine pS hC hK hl (m_above0 l G) si_X12_348 rfl rfl (Nat.le_of_ble_eq_true rfl) ⟨Nat.le_of_ble_eq_true rfl, Nat.le_of_ble_eq_true rfl⟩ ⟨by first | exact Nat.le_of_ble_eq_true rfl | exact Nat.zero_le _, by first | exact Nat.le_of_ble_eq_true rfl | exact Nat.zero_le _⟩ dX12_taken_88 (fun r5644 hr5644 => ?_)
                obtain rfl := hr5644
                refine lv_istore_n (lv' := [(3, .int (-1)), (0, .ref h0), (1, .int (nI jt)), (2, .int x2)]) hx hb dX12_taken_91 rfl hl (by decide) rfl (fun ls hl => ?_)
                refine lv_goto (tgt := 78) hx hb dX12_taken_92 (by decide) ?_
                refine lv_iload_n hx hb dX12_taken_78 rfl (lv_at hl 0 rfl) ?_
                refine lv_if_lt (tgt := 95) hx hb dX12_taken_79 (by decide) (fun _ => ?_) (fun c9 => absurd (by decide) c9)
                refine lv_iload_n hx hb dX12_taken_95 rfl (lv_at hl 0 rfl) ?_
                refine lv_iload_n hx hb dX12_taken_96 rfl (lv_at hl 3 rfl) ?_
                refine lv_icmp_ne (tgt := 109) hx hb dX12_taken_97 (by decide) (fun c_97_5646 => ?_) (fun c_97_5646 => ?_)
                · refine lv_bipush (v := (-13)) hx hb dX12_taken_109 (by decide) ?_
                  exact RP (v := (-13)) hC (trivial) rfl dX12_taken_111
                · refine lv_aload_n hx hb dX12_taken_100 rfl (lv_at hl 1 rfl) ?_
                  refine gf_X12_75 hC rfl hK hP 0 rfl rfl dX12_taken_101 ?_
                  refine lv_iload_n hx hb dX12_taken_104 rfl (lv_at hl 2 rfl) ?_
                  refine ald hC hK hP 3 rfl (vp_in_nI (by omega) (by omega)) (k := jt) (nI_clamp (by omega)) (v := fnsf jt) rfl dX12_taken_105 ?_
                  refine lv_topi (fun x5647 ex5647 => ?_)
                  refine lv_goto (tgt := 111) hx hb dX12_taken_106 (by decide) ?_
                  exact RP (v := x5647) hC (trivial) rfl dX12_taken_111
          · refine lv_istore_n (lv' := [(3, .int 2), (0, .ref h0), (1, .int (nI jt)), (2, .int x2)]) hx hb dX12_taken_70 rfl hl (by decide) rfl (fun ls hl => ?_)
            refine lv_iload_n hx hb dX12_taken_71 rfl (lv_at hl 0 rfl) ?_
            refine lv_if_ge (tgt := 78) hx hb dX12_taken_72 (by decide) (fun _ => ?_) (fun c9 => absurd (by decide) c9)
            refine lv_iload_n hx hb dX12_taken_78 rfl (lv_at hl 0 rfl) ?_
            refine lv_if_lt (tgt := 95) hx hb dX12_taken_79 (by decide) (fun c9 => absurd c9 (by decide)) (fun _ => ?_)
            refine lv_iload_n hx hb dX12_taken_82 rfl (lv_at hl 0 rfl) ?_
            refine lv_iload_n hx hb dX12_taken_83 rfl (lv_at hl 3 rfl) ?_
            refine lv_icmp_eq (tgt := 95) hx hb dX12_taken_84 (by decide) (fun c_84_5648 => ?_) (fun c_84_5648 => ?_)
            · refine lv_iload_n hx hb dX12_taken_95 rfl (lv_at hl 0 rfl) ?_
              refine lv_iload_n hx hb dX12_taken_96 rfl (lv_at hl 3 rfl) ?_
              refine lv_icmp_ne (tgt := 109) hx hb dX12_taken_97 (by decide) (fun c9 => absurd (c_84_5648) c9) (fun _ => ?_)
              refine lv_aload_n hx hb dX12_taken_100 rfl (lv_at hl 1 rfl) ?_
              refine gf_X12_75 hC rfl hK hP 0 rfl rfl dX12_taken_101 ?_
              refine lv_iload_n hx hb dX12_taken_104 rfl (lv_at hl 2 rfl) ?_
              refine ald hC hK hP 3 rfl (vp_in_nI (by omega) (by omega)) (k := jt) (nI_clamp (by omega)) (v := fnsf jt) rfl dX12_taken_105 ?_
              refine lv_topi (fun x5649 ex5649 => ?_)
              refine lv_goto (tgt := 111) hx hb dX12_taken_106 (by decide) ?_
              exact RP (v := x5649) hC (trivial) rfl dX12_taken_111
            · refine lv_iload_n hx hb dX12_taken_87 rfl (lv_at hl 0 rfl) ?_
              refine pS hC hK hl (m_above2 l G) si_X12_348 rfl rfl (Nat.le_of_ble_eq_true rfl) ⟨Nat.le_of_ble_eq_true rfl, Nat.le_of_ble_eq_true rfl⟩ ⟨by first | exact Nat.le_of_ble_eq_true rfl | exact Nat.zero_le _, by first | exact Nat.le_of_ble_eq_true rfl | exact Nat.zero_le _⟩ dX12_taken_88 (fun r5650 hr5650 => ?_)
              obtain rfl := hr5650
              refine lv_istore_n (lv' := [(3, .int 0), (0, .ref h0), (1, .int (nI jt)), (2, .int x2)]) hx hb dX12_taken_91 rfl hl (by decide) rfl (fun ls hl => ?_)
              refine lv_goto (tgt := 78) hx hb dX12_taken_92 (by decide) ?_
              refine lv_iload_n hx hb dX12_taken_78 rfl (lv_at hl 0 rfl) ?_
              refine lv_if_lt (tgt := 95) hx hb dX12_taken_79 (by decide) (fun c9 => absurd c9 (by decide)) (fun _ => ?_)
              refine lv_iload_n hx hb dX12_taken_82 rfl (lv_at hl 0 rfl) ?_
              refine lv_iload_n hx hb dX12_taken_83 rfl (lv_at hl 3 rfl) ?_
              refine lv_icmp_eq (tgt := 95) hx hb dX12_taken_84 (by decide) (fun c_84_5652 => ?_) (fun c_84_5652 => ?_)
              · refine lv_iload_n hx hb dX12_taken_95 rfl (lv_at hl 0 rfl) ?_
                refine lv_iload_n hx hb dX12_taken_96 rfl (lv_at hl 3 rfl) ?_
                refine lv_icmp_ne (tgt := 109) hx hb dX12_taken_97 (by decide) (fun c9 => absurd (c_84_5652) c9) (fun _ => ?_)
                refine lv_aload_n hx hb dX12_taken_100 rfl (lv_at hl 1 rfl) ?_
                refine gf_X12_75 hC rfl hK hP 0 rfl rfl dX12_taken_101 ?_
                refine lv_iload_n hx hb dX12_taken_104 rfl (lv_at hl 2 rfl) ?_
                refine ald hC hK hP 3 rfl (vp_in_nI (by omega) (by omega)) (k := jt) (nI_clamp (by omega)) (v := fnsf jt) rfl dX12_taken_105 ?_
                refine lv_topi (fun x5653 ex5653 => ?_)
                refine lv_goto (tgt := 111) hx hb dX12_taken_106 (by decide) ?_
                exact RP (v := x5653) hC (trivial) rfl dX12_taken_111
              · refine lv_iload_n hx hb dX12_taken_87 rfl (lv_at hl 0 rfl) ?_
                refine pS hC hK hl (m_above0 l G) si_X12_348 rfl rfl (Nat.le_of_ble_eq_true rfl) ⟨Nat.le_of_ble_eq_true rfl, Nat.le_of_ble_eq_true rfl⟩ ⟨by first | exact Nat.le_of_ble_eq_true rfl | exact Nat.zero_le _, by first | exact Nat.le_of_ble_eq_true rfl | exact Nat.zero_le _⟩ dX12_taken_88 (fun r5654 hr5654 => ?_)
                obtain rfl := hr5654
                refine lv_istore_n (lv' := [(3, .int (-1)), (0, .ref h0), (1, .int (nI jt)), (2, .int x2)]) hx hb dX12_taken_91 rfl hl (by decide) rfl (fun ls hl => ?_)
                refine lv_goto (tgt := 78) hx hb dX12_taken_92 (by decide) ?_
                refine lv_iload_n hx hb dX12_taken_78 rfl (lv_at hl 0 rfl) ?_
                refine lv_if_lt (tgt := 95) hx hb dX12_taken_79 (by decide) (fun _ => ?_) (fun c9 => absurd (by decide) c9)
                refine lv_iload_n hx hb dX12_taken_95 rfl (lv_at hl 0 rfl) ?_
                refine lv_iload_n hx hb dX12_taken_96 rfl (lv_at hl 3 rfl) ?_
                refine lv_icmp_ne (tgt := 109) hx hb dX12_taken_97 (by decide) (fun c_97_5656 => ?_) (fun c_97_5656 => ?_)
                · refine lv_bipush (v := (-13)) hx hb dX12_taken_109 (by decide) ?_
                  exact RP (v := (-13)) hC (trivial) rfl dX12_taken_111
                · refine lv_aload_n hx hb dX12_taken_100 rfl (lv_at hl 1 rfl) ?_
                  refine gf_X12_75 hC rfl hK hP 0 rfl rfl dX12_taken_101 ?_
                  refine lv_iload_n hx hb dX12_taken_104 rfl (lv_at hl 2 rfl) ?_
                  refine ald hC hK hP 3 rfl (vp_in_nI (by omega) (by omega)) (k := jt) (nI_clamp (by omega)) (v := fnsf jt) rfl dX12_taken_105 ?_
                  refine lv_topi (fun x5657 ex5657 => ?_)
                  refine lv_goto (tgt := 111) hx hb dX12_taken_106 (by decide) ?_
                  exact RP (v := x5657) hC (trivial) rfl dX12_taken_111
          · refine lv_istore_n (lv' := [(3, .int 3), (0, .ref h0), (1, .int (nI jt)), (2, .int x2)]) hx hb dX12_taken_70 rfl hl (by decide) rfl (fun ls hl => ?_)
            refine lv_iload_n hx hb dX12_taken_71 rfl (lv_at hl 0 rfl) ?_
            refine lv_if_ge (tgt := 78) hx hb dX12_taken_72 (by decide) (fun _ => ?_) (fun c9 => absurd (by decide) c9)
            refine lv_iload_n hx hb dX12_taken_78 rfl (lv_at hl 0 rfl) ?_
            refine lv_if_lt (tgt := 95) hx hb dX12_taken_79 (by decide) (fun c9 => absurd c9 (by decide)) (fun _ => ?_)
            refine lv_iload_n hx hb dX12_taken_82 rfl (lv_at hl 0 rfl) ?_
            refine lv_iload_n hx hb dX12_taken_83 rfl (lv_at hl 3 rfl) ?_
            refine lv_icmp_eq (tgt := 95) hx hb dX12_taken_84 (by decide) (fun c_84_5658 => ?_) (fun c_84_5658 => ?_)
            · refine lv_iload_n hx hb dX12_taken_95 rfl (lv_at hl 0 rfl) ?_
              refine lv_iload_n hx hb dX12_taken_96 rfl (lv_at hl 3 rfl) ?_
              refine lv_icmp_ne (tgt := 109) hx hb dX12_taken_97 (by decide) (fun c9 => absurd (c_84_5658) c9) (fun _ => ?_)
              refine lv_aload_n hx hb dX12_taken_100 rfl (lv_at hl 1 rfl) ?_
              refine gf_X12_75 hC rfl hK hP 0 rfl rfl dX12_taken_101 ?_
              refine lv_iload_n hx hb dX12_taken_104 rfl (lv_at hl 2 rfl) ?_
              refine ald hC hK hP 3 rfl (vp_in_nI (by omega) (by omega)) (k := jt) (nI_clamp (by omega)) (v := fnsf jt) rfl dX12_taken_105 ?_
              refine lv_topi (fun x5659 ex5659 => ?_)
              refine lv_goto (tgt := 111) hx hb dX12_taken_106 (by decide) ?_
              exact RP (v := x5659) hC (trivial) rfl dX12_taken_111
            · refine lv_iload_n hx hb dX12_taken_87 rfl (lv_at hl 0 rfl) ?_
              refine pS hC hK hl (m_above3 l G) si_X12_348 rfl rfl (Nat.le_of_ble_eq_true rfl) ⟨Nat.le_of_ble_eq_true rfl, Nat.le_of_ble_eq_true rfl⟩ ⟨by first | exact Nat.le_of_ble_eq_true rfl | exact Nat.zero_le _, by first | exact Nat.le_of_ble_eq_true rfl | exact Nat.zero_le _⟩ dX12_taken_88 (fun r5660 hr5660 => ?_)
              obtain rfl := hr5660
              refine lv_istore_n (lv' := [(3, .int 1), (0, .ref h0), (1, .int (nI jt)), (2, .int x2)]) hx hb dX12_taken_91 rfl hl (by decide) rfl (fun ls hl => ?_)
              refine lv_goto (tgt := 78) hx hb dX12_taken_92 (by decide) ?_
              refine lv_iload_n hx hb dX12_taken_78 rfl (lv_at hl 0 rfl) ?_
              refine lv_if_lt (tgt := 95) hx hb dX12_taken_79 (by decide) (fun c9 => absurd c9 (by decide)) (fun _ => ?_)
              refine lv_iload_n hx hb dX12_taken_82 rfl (lv_at hl 0 rfl) ?_
              refine lv_iload_n hx hb dX12_taken_83 rfl (lv_at hl 3 rfl) ?_
              refine lv_icmp_eq (tgt := 95) hx hb dX12_taken_84 (by decide) (fun c_84_5662 => ?_) (fun c_84_5662 => ?_)
              · refine lv_iload_n hx hb dX12_taken_95 rfl (lv_at hl 0 rfl) ?_
                refine lv_iload_n hx hb dX12_taken_96 rfl (lv_at hl 3 rfl) ?_
                refine lv_icmp_ne (tgt := 109) hx hb dX12_taken_97 (by decide) (fun c9 => absurd (c_84_5662) c9) (fun _ => ?_)
                refine lv_aload_n hx hb dX12_taken_100 rfl (lv_at hl 1 rfl) ?_
                refine gf_X12_75 hC rfl hK hP 0 rfl rfl dX12_taken_101 ?_
                refine lv_iload_n hx hb dX12_taken_104 rfl (lv_at hl 2 rfl) ?_
                refine ald hC hK hP 3 rfl (vp_in_nI (by omega) (by omega)) (k := jt) (nI_clamp (by omega)) (v := fnsf jt) rfl dX12_taken_105 ?_
                refine lv_topi (fun x5663 ex5663 => ?_)
                refine lv_goto (tgt := 111) hx hb dX12_taken_106 (by decide) ?_
                exact RP (v := x5663) hC (trivial) rfl dX12_taken_111
              · refine lv_iload_n hx hb dX12_taken_87 rfl (lv_at hl 0 rfl) ?_
                refine pS hC hK hl (m_above1 l G) si_X12_348 rfl rfl (Nat.le_of_ble_eq_true rfl) ⟨Nat.le_of_ble_eq_true rfl, Nat.le_of_ble_eq_true rfl⟩ ⟨by first | exact Nat.le_of_ble_eq_true rfl | exact Nat.zero_le _, by first | exact Nat.le_of_ble_eq_true rfl | exact Nat.zero_le _⟩ dX12_taken_88 (fun r5664 hr5664 => ?_)
                obtain rfl := hr5664
                refine lv_istore_n (lv' := [(3, .int 0), (0, .ref h0), (1, .int (nI jt)), (2, .int x2)]) hx hb dX12_taken_91 rfl hl (by decide) rfl (fun ls hl => ?_)
                refine lv_goto (tgt := 78) hx hb dX12_taken_92 (by decide) ?_
                refine lv_iload_n hx hb dX12_taken_78 rfl (lv_at hl 0 rfl) ?_
                refine lv_if_lt (tgt := 95) hx hb dX12_taken_79 (by decide) (fun c9 => absurd c9 (by decide)) (fun _ => ?_)
                refine lv_iload_n hx hb dX12_taken_82 rfl (lv_at hl 0 rfl) ?_
                refine lv_iload_n hx hb dX12_taken_83 rfl (lv_at hl 3 rfl) ?_
                refine lv_icmp_eq (tgt := 95) hx hb dX12_taken_84 (by decide) (fun c_84_5666 => ?_) (fun c_84_5666 => ?_)
                · refine lv_iload_n hx hb dX12_taken_95 rfl (lv_at hl 0 rfl) ?_
                  refine lv_iload_n hx hb dX12_taken_96 rfl (lv_at hl 3 rfl) ?_
                  refine lv_icmp_ne (tgt := 109) hx hb dX12_taken_97 (by decide) (fun c9 => absurd (c_84_5666) c9) (fun _ => ?_)
                  refine lv_aload_n hx hb dX12_taken_100 rfl (lv_at hl 1 rfl) ?_
                  refine gf_X12_75 hC rfl hK hP 0 rfl rfl dX12_taken_101 ?_
                  refine lv_iload_n hx hb dX12_taken_104 rfl (lv_at hl 2 rfl) ?_
                  refine ald hC hK hP 3 rfl (vp_in_nI (by omega) (by omega)) (k := jt) (nI_clamp (by omega)) (v := fnsf jt) rfl dX12_taken_105 ?_
                  refine lv_topi (fun x5667 ex5667 => ?_)
                  refine lv_goto (tgt := 111) hx hb dX12_taken_106 (by decide) ?_
                  exact RP (v := x5667) hC (trivial) rfl dX12_taken_111
                · refine lv_iload_n hx hb dX12_taken_87 rfl (lv_at hl 0 rfl) ?_
                  refine pS hC hK hl (m_above0 l G) si_X12_348 rfl rfl (Nat.le_of_ble_eq_true rfl) ⟨Nat.le_of_ble_eq_true rfl, Nat.le_of_ble_eq_true rfl⟩ ⟨by first | exact Nat.le_of_ble_eq_true rfl | exact Nat.zero_le _, by first | exact Nat.le_of_ble_eq_true rfl | exact Nat.zero_le _⟩ dX12_taken_88 (fun r5668 hr5668 => ?_)
                  obtain rfl := hr5668
                  refine lv_istore_n (lv' := [(3, .int (-1)), (0, .ref h0), (1, .int (nI jt)), (2, .int x2)]) hx hb dX12_taken_91 rfl hl (by decide) rfl (fun ls hl => ?_)
                  refine lv_goto (tgt := 78) hx hb dX12_taken_92 (by decide) ?_
                  refine lv_iload_n hx hb dX12_taken_78 rfl (lv_at hl 0 rfl) ?_
                  refine lv_if_lt (tgt := 95) hx hb dX12_taken_79 (by decide) (fun _ => ?_) (fun c9 => absurd (by decide) c9)
                  refine lv_iload_n hx hb dX12_taken_95 rfl (lv_at hl 0 rfl) ?_
                  refine lv_iload_n hx hb dX12_taken_96 rfl (lv_at hl 3 rfl) ?_
                  refine lv_icmp_ne (tgt := 109) hx hb dX12_taken_97 (by decide) (fun c_97_5670 => ?_) (fun c_97_5670 => ?_)
                  · refine lv_bipush (v := (-13)) hx hb dX12_taken_109 (by decide) ?_
                    exact RP (v := (-13)) hC (trivial) rfl dX12_taken_111
                  · refine lv_aload_n hx hb dX12_taken_100 rfl (lv_at hl 1 rfl) ?_
                    refine gf_X12_75 hC rfl hK hP 0 rfl rfl dX12_taken_101 ?_
                    refine lv_iload_n hx hb dX12_taken_104 rfl (lv_at hl 2 rfl) ?_
                    refine ald hC hK hP 3 rfl (vp_in_nI (by omega) (by omega)) (k := jt) (nI_clamp (by omega)) (v := fnsf jt) rfl dX12_taken_105 ?_
                    refine lv_topi (fun x5671 ex5671 => ?_)
                    refine lv_goto (tgt := 111) hx hb dX12_taken_106 (by decide) ?_
                    exact RP (v := x5671) hC (trivial) rfl dX12_taken_111
          · refine lv_istore_n (lv' := [(3, .int 4), (0, .ref h0), (1, .int (nI jt)), (2, .int x2)]) hx hb dX12_taken_70 rfl hl (by decide) rfl (fun ls hl => ?_)
            refine lv_iload_n hx hb dX12_taken_71 rfl (lv_at hl 0 rfl) ?_
            refine lv_if_ge (tgt := 78) hx hb dX12_taken_72 (by decide) (fun _ => ?_) (fun c9 => absurd (by decide) c9)
            refine lv_iload_n hx hb dX12_taken_78 rfl (lv_at hl 0 rfl) ?_
            refine lv_if_lt (tgt := 95) hx hb dX12_taken_79 (by decide) (fun c9 => absurd c9 (by decide)) (fun _ => ?_)
            refine lv_iload_n hx hb dX12_taken_82 rfl (lv_at hl 0 rfl) ?_
            refine lv_iload_n hx hb dX12_taken_83 rfl (lv_at hl 3 rfl) ?_
            refine lv_icmp_eq (tgt := 95) hx hb dX12_taken_84 (by decide) (fun c_84_5672 => ?_) (fun c_84_5672 => ?_)
            · refine lv_iload_n hx hb dX12_taken_95 rfl (lv_at hl 0 rfl) ?_
              refine lv_iload_n hx hb dX12_taken_96 rfl (lv_at hl 3 rfl) ?_
              refine lv_icmp_ne (tgt := 109) hx hb dX12_taken_97 (by decide) (fun c9 => absurd (c_84_5672) c9) (fun _ => ?_)
              refine lv_aload_n hx hb dX12_taken_100 rfl (lv_at hl 1 rfl) ?_
              refine gf_X12_75 hC rfl hK hP 0 rfl rfl dX12_taken_101 ?_
              refine lv_iload_n hx hb dX12_taken_104 rfl (lv_at hl 2 rfl) ?_
              refine ald hC hK hP 3 rfl (vp_in_nI (by omega) (by omega)) (k := jt) (nI_clamp (by omega)) (v := fnsf jt) rfl dX12_taken_105 ?_
              refine lv_topi (fun x5673 ex5673 => ?_)
              refine lv_goto (tgt := 111) hx hb dX12_taken_106 (by decide) ?_
              exact RP (v := x5673) hC (trivial) rfl dX12_taken_111
            · refine lv_iload_n hx hb dX12_taken_87 rfl (lv_at hl 0 rfl) ?_
              refine pS hC hK hl (m_above4 l G) si_X12_348 rfl rfl (Nat.le_of_ble_eq_true rfl) ⟨Nat.le_of_ble_eq_true rfl, Nat.le_of_ble_eq_true rfl⟩ ⟨by first | exact Nat.le_of_ble_eq_true rfl | exact Nat.zero_le _, by first | exact Nat.le_of_ble_eq_true rfl | exact Nat.zero_le _⟩ dX12_taken_88 (fun r5674 hr5674 => ?_)
              obtain rfl := hr5674
              refine lv_istore_n (lv' := [(3, .int 0), (0, .ref h0), (1, .int (nI jt)), (2, .int x2)]) hx hb dX12_taken_91 rfl hl (by decide) rfl (fun ls hl => ?_)
              refine lv_goto (tgt := 78) hx hb dX12_taken_92 (by decide) ?_
              refine lv_iload_n hx hb dX12_taken_78 rfl (lv_at hl 0 rfl) ?_
              refine lv_if_lt (tgt := 95) hx hb dX12_taken_79 (by decide) (fun c9 => absurd c9 (by decide)) (fun _ => ?_)
              refine lv_iload_n hx hb dX12_taken_82 rfl (lv_at hl 0 rfl) ?_
              refine lv_iload_n hx hb dX12_taken_83 rfl (lv_at hl 3 rfl) ?_
              refine lv_icmp_eq (tgt := 95) hx hb dX12_taken_84 (by decide) (fun c_84_5676 => ?_) (fun c_84_5676 => ?_)
              · refine lv_iload_n hx hb dX12_taken_95 rfl (lv_at hl 0 rfl) ?_
                refine lv_iload_n hx hb dX12_taken_96 rfl (lv_at hl 3 rfl) ?_
                refine lv_icmp_ne (tgt := 109) hx hb dX12_taken_97 (by decide) (fun c9 => absurd (c_84_5676) c9) (fun _ => ?_)
                refine lv_aload_n hx hb dX12_taken_100 rfl (lv_at hl 1 rfl) ?_
                refine gf_X12_75 hC rfl hK hP 0 rfl rfl dX12_taken_101 ?_
                refine lv_iload_n hx hb dX12_taken_104 rfl (lv_at hl 2 rfl) ?_
                refine ald hC hK hP 3 rfl (vp_in_nI (by omega) (by omega)) (k := jt) (nI_clamp (by omega)) (v := fnsf jt) rfl dX12_taken_105 ?_
                refine lv_topi (fun x5677 ex5677 => ?_)
                refine lv_goto (tgt := 111) hx hb dX12_taken_106 (by decide) ?_
                exact RP (v := x5677) hC (trivial) rfl dX12_taken_111
              · refine lv_iload_n hx hb dX12_taken_87 rfl (lv_at hl 0 rfl) ?_
                refine pS hC hK hl (m_above0 l G) si_X12_348 rfl rfl (Nat.le_of_ble_eq_true rfl) ⟨Nat.le_of_ble_eq_true rfl, Nat.le_of_ble_eq_true rfl⟩ ⟨by first | exact Nat.le_of_ble_eq_true rfl | exact Nat.zero_le _, by first | exact Nat.le_of_ble_eq_true rfl | exact Nat.zero_le _⟩ dX12_taken_88 (fun r5678 hr5678 => ?_)
                obtain rfl := hr5678
                refine lv_istore_n (lv' := [(3, .int (-1)), (0, .ref h0), (1, .int (nI jt)), (2, .int x2)]) hx hb dX12_taken_91 rfl hl (by decide) rfl (fun ls hl => ?_)
                refine lv_goto (tgt := 78) hx hb dX12_taken_92 (by decide) ?_
                refine lv_iload_n hx hb dX12_taken_78 rfl (lv_at hl 0 rfl) ?_
                refine lv_if_lt (tgt := 95) hx hb dX12_taken_79 (by decide) (fun _ => ?_) (fun c9 => absurd (by decide) c9)
                refine lv_iload_n hx hb dX12_taken_95 rfl (lv_at hl 0 rfl) ?_
                refine lv_iload_n hx hb dX12_taken_96 rfl (lv_at hl 3 rfl) ?_
                refine lv_icmp_ne (tgt := 109) hx hb dX12_taken_97 (by decide) (fun c_97_5680 => ?_) (fun c_97_5680 => ?_)
                · refine lv_bipush (v := (-13)) hx hb dX12_taken_109 (by decide) ?_
                  exact RP (v := (-13)) hC (trivial) rfl dX12_taken_111
                · refine lv_aload_n hx hb dX12_taken_100 rfl (lv_at hl 1 rfl) ?_
                  refine gf_X12_75 hC rfl hK hP 0 rfl rfl dX12_taken_101 ?_
                  refine lv_iload_n hx hb dX12_taken_104 rfl (lv_at hl 2 rfl) ?_
                  refine ald hC hK hP 3 rfl (vp_in_nI (by omega) (by omega)) (k := jt) (nI_clamp (by omega)) (v := fnsf jt) rfl dX12_taken_105 ?_
                  refine lv_topi (fun x5681 ex5681 => ?_)
                  refine lv_goto (tgt := 111) hx hb dX12_taken_106 (by decide) ?_
                  exact RP (v := x5681) hC (trivial) rfl dX12_taken_111
          · refine lv_istore_n (lv' := [(3, .int 5), (0, .ref h0), (1, .int (nI jt)), (2, .int x2)]) hx hb dX12_taken_70 rfl hl (by decide) rfl (fun ls hl => ?_)
            refine lv_iload_n hx hb dX12_taken_71 rfl (lv_at hl 0 rfl) ?_
            refine lv_if_ge (tgt := 78) hx hb dX12_taken_72 (by decide) (fun _ => ?_) (fun c9 => absurd (by decide) c9)
            refine lv_iload_n hx hb dX12_taken_78 rfl (lv_at hl 0 rfl) ?_
            refine lv_if_lt (tgt := 95) hx hb dX12_taken_79 (by decide) (fun c9 => absurd c9 (by decide)) (fun _ => ?_)
            refine lv_iload_n hx hb dX12_taken_82 rfl (lv_at hl 0 rfl) ?_
            refine lv_iload_n hx hb dX12_taken_83 rfl (lv_at hl 3 rfl) ?_
            refine lv_icmp_eq (tgt := 95) hx hb dX12_taken_84 (by decide) (fun c_84_5682 => ?_) (fun c_84_5682 => ?_)
            · refine lv_iload_n hx hb dX12_taken_95 rfl (lv_at hl 0 rfl) ?_
              refine lv_iload_n hx hb dX12_taken_96 rfl (lv_at hl 3 rfl) ?_
              refine lv_icmp_ne (tgt := 109) hx hb dX12_taken_97 (by decide) (fun c9 => absurd (c_84_5682) c9) (fun _ => ?_)
              refine lv_aload_n hx hb dX12_taken_100 rfl (lv_at hl 1 rfl) ?_
              refine gf_X12_75 hC rfl hK hP 0 rfl rfl dX12_taken_101 ?_
              refine lv_iload_n hx hb dX12_taken_104 rfl (lv_at hl 2 rfl) ?_
              refine ald hC hK hP 3 rfl (vp_in_nI (by omega) (by omega)) (k := jt) (nI_clamp (by omega)) (v := fnsf jt) rfl dX12_taken_105 ?_
              refine lv_topi (fun x5683 ex5683 => ?_)
              refine lv_goto (tgt := 111) hx hb dX12_taken_106 (by decide) ?_
              exact RP (v := x5683) hC (trivial) rfl dX12_taken_111
            · refine lv_iload_n hx hb dX12_taken_87 rfl (lv_at hl 0 rfl) ?_
              refine pS hC hK hl (m_above5 l G) si_X12_348 rfl rfl (Nat.le_of_ble_eq_true rfl) ⟨Nat.le_of_ble_eq_true rfl, Nat.le_of_ble_eq_true rfl⟩ ⟨by first | exact Nat.le_of_ble_eq_true rfl | exact Nat.zero_le _, by first | exact Nat.le_of_ble_eq_true rfl | exact Nat.zero_le _⟩ dX12_taken_88 (fun r5684 hr5684 => ?_)
              obtain rfl := hr5684
              refine lv_istore_n (lv' := [(3, .int 4), (0, .ref h0), (1, .int (nI jt)), (2, .int x2)]) hx hb dX12_taken_91 rfl hl (by decide) rfl (fun ls hl => ?_)
              refine lv_goto (tgt := 78) hx hb dX12_taken_92 (by decide) ?_
              refine lv_iload_n hx hb dX12_taken_78 rfl (lv_at hl 0 rfl) ?_
              refine lv_if_lt (tgt := 95) hx hb dX12_taken_79 (by decide) (fun c9 => absurd c9 (by decide)) (fun _ => ?_)
              refine lv_iload_n hx hb dX12_taken_82 rfl (lv_at hl 0 rfl) ?_
              refine lv_iload_n hx hb dX12_taken_83 rfl (lv_at hl 3 rfl) ?_
              refine lv_icmp_eq (tgt := 95) hx hb dX12_taken_84 (by decide) (fun c_84_5686 => ?_) (fun c_84_5686 => ?_)
              · refine lv_iload_n hx hb dX12_taken_95 rfl (lv_at hl 0 rfl) ?_
                refine lv_iload_n hx hb dX12_taken_96 rfl (lv_at hl 3 rfl) ?_
                refine lv_icmp_ne (tgt := 109) hx hb dX12_taken_97 (by decide) (fun c9 => absurd (c_84_5686) c9) (fun _ => ?_)
                refine lv_aload_n hx hb dX12_taken_100 rfl (lv_at hl 1 rfl) ?_
                refine gf_X12_75 hC rfl hK hP 0 rfl rfl dX12_taken_101 ?_
                refine lv_iload_n hx hb dX12_taken_104 rfl (lv_at hl 2 rfl) ?_
                refine ald hC hK hP 3 rfl (vp_in_nI (by omega) (by omega)) (k := jt) (nI_clamp (by omega)) (v := fnsf jt) rfl dX12_taken_105 ?_
                refine lv_topi (fun x5687 ex5687 => ?_)
                refine lv_goto (tgt := 111) hx hb dX12_taken_106 (by decide) ?_
                exact RP (v := x5687) hC (trivial) rfl dX12_taken_111
              · refine lv_iload_n hx hb dX12_taken_87 rfl (lv_at hl 0 rfl) ?_
                refine pS hC hK hl (m_above4 l G) si_X12_348 rfl rfl (Nat.le_of_ble_eq_true rfl) ⟨Nat.le_of_ble_eq_true rfl, Nat.le_of_ble_eq_true rfl⟩ ⟨by first | exact Nat.le_of_ble_eq_true rfl | exact Nat.zero_le _, by first | exact Nat.le_of_ble_eq_true rfl | exact Nat.zero_le _⟩ dX12_taken_88 (fun r5688 hr5688 => ?_)
                obtain rfl := hr5688
                refine lv_istore_n (lv' := [(3, .int 0), (0, .ref h0), (1, .int (nI jt)), (2, .int x2)]) hx hb dX12_taken_91 rfl hl (by decide) rfl (fun ls hl => ?_)
                refine lv_goto (tgt := 78) hx hb dX12_taken_92 (by decide) ?_
                refine lv_iload_n hx hb dX12_taken_78 rfl (lv_at hl 0 rfl) ?_
                refine lv_if_lt (tgt := 95) hx hb dX12_taken_79 (by decide) (fun c9 => absurd c9 (by decide)) (fun _ => ?_)
                refine lv_iload_n hx hb dX12_taken_82 rfl (lv_at hl 0 rfl) ?_
                refine lv_iload_n hx hb dX12_taken_83 rfl (lv_at hl 3 rfl) ?_
                refine lv_icmp_eq (tgt := 95) hx hb dX12_taken_84 (by decide) (fun c_84_5690 => ?_) (fun c_84_5690 => ?_)
                · refine lv_iload_n hx hb dX12_taken_95 rfl (lv_at hl 0 rfl) ?_
                  refine lv_iload_n hx hb dX12_taken_96 rfl (lv_at hl 3 rfl) ?_
                  refine lv_icmp_ne (tgt := 109) hx hb dX12_taken_97 (by decide) (fun c9 => absurd (c_84_5690) c9) (fun _ => ?_)
                  refine lv_aload_n hx hb dX12_taken_100 rfl (lv_at hl 1 rfl) ?_
                  refine gf_X12_75 hC rfl hK hP 0 rfl rfl dX12_taken_101 ?_
                  refine lv_iload_n hx hb dX12_taken_104 rfl (lv_at hl 2 rfl) ?_
                  refine ald hC hK hP 3 rfl (vp_in_nI (by omega) (by omega)) (k := jt) (nI_clamp (by omega)) (v := fnsf jt) rfl dX12_taken_105 ?_
                  refine lv_topi (fun x5691 ex5691 => ?_)
                  refine lv_goto (tgt := 111) hx hb dX12_taken_106 (by decide) ?_
                  exact RP (v := x5691) hC (trivial) rfl dX12_taken_111
                · refine lv_iload_n hx hb dX12_taken_87 rfl (lv_at hl 0 rfl) ?_
                  refine pS hC hK hl (m_above0 l G) si_X12_348 rfl rfl (Nat.le_of_ble_eq_true rfl) ⟨Nat.le_of_ble_eq_true rfl, Nat.le_of_ble_eq_true rfl⟩ ⟨by first | exact Nat.le_of_ble_eq_true rfl | exact Nat.zero_le _, by first | exact Nat.le_of_ble_eq_true rfl | exact Nat.zero_le _⟩ dX12_taken_88 (fun r5692 hr5692 => ?_)
                  obtain rfl := hr5692
                  refine lv_istore_n (lv' := [(3, .int (-1)), (0, .ref h0), (1, .int (nI jt)), (2, .int x2)]) hx hb dX12_taken_91 rfl hl (by decide) rfl (fun ls hl => ?_)
                  refine lv_goto (tgt := 78) hx hb dX12_taken_92 (by decide) ?_
                  refine lv_iload_n hx hb dX12_taken_78 rfl (lv_at hl 0 rfl) ?_
                  refine lv_if_lt (tgt := 95) hx hb dX12_taken_79 (by decide) (fun _ => ?_) (fun c9 => absurd (by decide) c9)
                  refine lv_iload_n hx hb dX12_taken_95 rfl (lv_at hl 0 rfl) ?_
                  refine lv_iload_n hx hb dX12_taken_96 rfl (lv_at hl 3 rfl) ?_
                  refine lv_icmp_ne (tgt := 109) hx hb dX12_taken_97 (by decide) (fun c_97_5694 => ?_) (fun c_97_5694 => ?_)
                  · refine lv_bipush (v := (-13)) hx hb dX12_taken_109 (by decide) ?_
                    exact RP (v := (-13)) hC (trivial) rfl dX12_taken_111
                  · refine lv_aload_n hx hb dX12_taken_100 rfl (lv_at hl 1 rfl) ?_
                    refine gf_X12_75 hC rfl hK hP 0 rfl rfl dX12_taken_101 ?_
                    refine lv_iload_n hx hb dX12_taken_104 rfl (lv_at hl 2 rfl) ?_
                    refine ald hC hK hP 3 rfl (vp_in_nI (by omega) (by omega)) (k := jt) (nI_clamp (by omega)) (v := fnsf jt) rfl dX12_taken_105 ?_
                    refine lv_topi (fun x5695 ex5695 => ?_)
                    refine lv_goto (tgt := 111) hx hb dX12_taken_106 (by decide) ?_
                    exact RP (v := x5695) hC (trivial) rfl dX12_taken_111
          · refine lv_istore_n (lv' := [(3, .int 6), (0, .ref h0), (1, .int (nI jt)), (2, .int x2)]) hx hb dX12_taken_70 rfl hl (by decide) rfl (fun ls hl => ?_)
            refine lv_iload_n hx hb dX12_taken_71 rfl (lv_at hl 0 rfl) ?_
            refine lv_if_ge (tgt := 78) hx hb dX12_taken_72 (by decide) (fun _ => ?_) (fun c9 => absurd (by decide) c9)
            refine lv_iload_n hx hb dX12_taken_78 rfl (lv_at hl 0 rfl) ?_
            refine lv_if_lt (tgt := 95) hx hb dX12_taken_79 (by decide) (fun c9 => absurd c9 (by decide)) (fun _ => ?_)
            refine lv_iload_n hx hb dX12_taken_82 rfl (lv_at hl 0 rfl) ?_
            refine lv_iload_n hx hb dX12_taken_83 rfl (lv_at hl 3 rfl) ?_
            refine lv_icmp_eq (tgt := 95) hx hb dX12_taken_84 (by decide) (fun c_84_5696 => ?_) (fun c_84_5696 => ?_)
            · refine lv_iload_n hx hb dX12_taken_95 rfl (lv_at hl 0 rfl) ?_
              refine lv_iload_n hx hb dX12_taken_96 rfl (lv_at hl 3 rfl) ?_
              refine lv_icmp_ne (tgt := 109) hx hb dX12_taken_97 (by decide) (fun c9 => absurd (c_84_5696) c9) (fun _ => ?_)
              refine lv_aload_n hx hb dX12_taken_100 rfl (lv_at hl 1 rfl) ?_
              refine gf_X12_75 hC rfl hK hP 0 rfl rfl dX12_taken_101 ?_
              refine lv_iload_n hx hb dX12_taken_104 rfl (lv_at hl 2 rfl) ?_
              refine ald hC hK hP 3 rfl (vp_in_nI (by omega) (by omega)) (k := jt) (nI_clamp (by omega)) (v := fnsf jt) rfl dX12_taken_105 ?_
              refine lv_topi (fun x5697 ex5697 => ?_)
              refine lv_goto (tgt := 111) hx hb dX12_taken_106 (by decide) ?_
              exact RP (v := x5697) hC (trivial) rfl dX12_taken_111
            · refine lv_iload_n hx hb dX12_taken_87 rfl (lv_at hl 0 rfl) ?_
              refine pS hC hK hl (m_above6 l G) si_X12_348 rfl rfl (Nat.le_of_ble_eq_true rfl) ⟨Nat.le_of_ble_eq_true rfl, Nat.le_of_ble_eq_true rfl⟩ ⟨by first | exact Nat.le_of_ble_eq_true rfl | exact Nat.zero_le _, by first | exact Nat.le_of_ble_eq_true rfl | exact Nat.zero_le _⟩ dX12_taken_88 (fun r5698 hr5698 => ?_)
              obtain rfl := hr5698
              refine lv_istore_n (lv' := [(3, .int 0), (0, .ref h0), (1, .int (nI jt)), (2, .int x2)]) hx hb dX12_taken_91 rfl hl (by decide) rfl (fun ls hl => ?_)
              refine lv_goto (tgt := 78) hx hb dX12_taken_92 (by decide) ?_
              refine lv_iload_n hx hb dX12_taken_78 rfl (lv_at hl 0 rfl) ?_
              refine lv_if_lt (tgt := 95) hx hb dX12_taken_79 (by decide) (fun c9 => absurd c9 (by decide)) (fun _ => ?_)
              refine lv_iload_n hx hb dX12_taken_82 rfl (lv_at hl 0 rfl) ?_
              refine lv_iload_n hx hb dX12_taken_83 rfl (lv_at hl 3 rfl) ?_
              refine lv_icmp_eq (tgt := 95) hx hb dX12_taken_84 (by decide) (fun c_84_5700 => ?_) (fun c_84_5700 => ?_)
              · refine lv_iload_n hx hb dX12_taken_95 rfl (lv_at hl 0 rfl) ?_
                refine lv_iload_n hx hb dX12_taken_96 rfl (lv_at hl 3 rfl) ?_
                refine lv_icmp_ne (tgt := 109) hx hb dX12_taken_97 (by decide) (fun c9 => absurd (c_84_5700) c9) (fun _ => ?_)
                refine lv_aload_n hx hb dX12_taken_100 rfl (lv_at hl 1 rfl) ?_
                refine gf_X12_75 hC rfl hK hP 0 rfl rfl dX12_taken_101 ?_
                refine lv_iload_n hx hb dX12_taken_104 rfl (lv_at hl 2 rfl) ?_
                refine ald hC hK hP 3 rfl (vp_in_nI (by omega) (by omega)) (k := jt) (nI_clamp (by omega)) (v := fnsf jt) rfl dX12_taken_105 ?_
                refine lv_topi (fun x5701 ex5701 => ?_)
                refine lv_goto (tgt := 111) hx hb dX12_taken_106 (by decide) ?_
                exact RP (v := x5701) hC (trivial) rfl dX12_taken_111
              · refine lv_iload_n hx hb dX12_taken_87 rfl (lv_at hl 0 rfl) ?_
                refine pS hC hK hl (m_above0 l G) si_X12_348 rfl rfl (Nat.le_of_ble_eq_true rfl) ⟨Nat.le_of_ble_eq_true rfl, Nat.le_of_ble_eq_true rfl⟩ ⟨by first | exact Nat.le_of_ble_eq_true rfl | exact Nat.zero_le _, by first | exact Nat.le_of_ble_eq_true rfl | exact Nat.zero_le _⟩ dX12_taken_88 (fun r5702 hr5702 => ?_)
                obtain rfl := hr5702
                refine lv_istore_n (lv' := [(3, .int (-1)), (0, .ref h0), (1, .int (nI jt)), (2, .int x2)]) hx hb dX12_taken_91 rfl hl (by decide) rfl (fun ls hl => ?_)
                refine lv_goto (tgt := 78) hx hb dX12_taken_92 (by decide) ?_
                refine lv_iload_n hx hb dX12_taken_78 rfl (lv_at hl 0 rfl) ?_
                refine lv_if_lt (tgt := 95) hx hb dX12_taken_79 (by decide) (fun _ => ?_) (fun c9 => absurd (by decide) c9)
                refine lv_iload_n hx hb dX12_taken_95 rfl (lv_at hl 0 rfl) ?_
                refine lv_iload_n hx hb dX12_taken_96 rfl (lv_at hl 3 rfl) ?_
                refine lv_icmp_ne (tgt := 109) hx hb dX12_taken_97 (by decide) (fun c_97_5704 => ?_) (fun c_97_5704 => ?_)
                · refine lv_bipush (v := (-13)) hx hb dX12_taken_109 (by decide) ?_
                  exact RP (v := (-13)) hC (trivial) rfl dX12_taken_111
                · refine lv_aload_n hx hb dX12_taken_100 rfl (lv_at hl 1 rfl) ?_
                  refine gf_X12_75 hC rfl hK hP 0 rfl rfl dX12_taken_101 ?_
                  refine lv_iload_n hx hb dX12_taken_104 rfl (lv_at hl 2 rfl) ?_
                  refine ald hC hK hP 3 rfl (vp_in_nI (by omega) (by omega)) (k := jt) (nI_clamp (by omega)) (v := fnsf jt) rfl dX12_taken_105 ?_
                  refine lv_topi (fun x5705 ex5705 => ?_)
                  refine lv_goto (tgt := 111) hx hb dX12_taken_106 (by decide) ?_
                  exact RP (v := x5705) hC (trivial) rfl dX12_taken_111
        · refine lv_iload_n hx hb dX12_taken_40 rfl (lv_at hl 2 rfl) ?_
          refine lv_bipush (v := 10) hx hb dX12_taken_41 (by decide) ?_
          refine lv_isub hx hb dX12_taken_43 ?_
          refine lv_aload_n hx hb dX12_taken_44 rfl (lv_at hl 0 rfl) ?_
          refine gf_X12_75 hC rfl hK hP 0 rfl rfl dX12_taken_45 ?_
          refine lv_iload_n hx hb dX12_taken_48 rfl (lv_at hl 1 rfl) ?_
          refine ald hC hK hP 3 rfl (vp_in_nI (by omega) (by omega)) (k := jt) (nI_clamp (by omega)) (v := fnsf jt) rfl dX12_taken_49 ?_
          refine lv_topi (fun x5706 ex5706 => ?_)
          refine lv_icmp_ne (tgt := 62) hx hb dX12_taken_50 (by decide) (fun c_50_5707 => ?_) (fun c_50_5707 => ?_)
          · refine lv_bipush (v := (-13)) hx hb dX12_taken_62 (by decide) ?_
            exact RP (v := (-13)) hC (trivial) rfl dX12_taken_64
          · refine lv_aload_n hx hb dX12_taken_53 rfl (lv_at hl 0 rfl) ?_
            refine gf_X12_78 hC rfl hK hP 0 rfl rfl dX12_taken_54 ?_
            refine lv_iload_n hx hb dX12_taken_57 rfl (lv_at hl 1 rfl) ?_
            refine ald hC hK hP 4 rfl (vp_in_nI (by omega) (by omega)) (k := jt) (nI_clamp (by omega)) (v := fnss jt) rfl dX12_taken_58 ?_
            refine lv_topi (fun x5708 ex5708 => ?_)
            refine lv_goto (tgt := 64) hx hb dX12_taken_59 (by decide) ?_
            exact RP (v := x5708) hC (trivial) rfl dX12_taken_64
      · refine lv_if_ne (tgt := 30) hx hb dX12_taken_25 (by decide) (fun c9 => absurd (by decide) c9) (fun _ => ?_)
        refine lv_iconst (v := (-1)) hx hb dX12_taken_28 (by decide) ?_
        exact RP (v := (-1)) hC (trivial) rfl dX12_taken_29
  · refine lv_if_eq (tgt := 28) hx hb dX12_taken_4 (by decide) (fun _ => ?_) (fun c9 => absurd (by decide) c9)
    refine lv_iconst (v := (-1)) hx hb dX12_taken_28 (by decide) ?_
    exact RP (v := (-1)) hC (trivial) rfl dX12_taken_29
set_option maxHeartbeats 4000000 in
set_option maxRecDepth 100000 in
theorem m_began (l : Launch) (G : GG) (h0 : Nat) (bo : Int32) (nw : Nat) (nk : Nat) (mhasKept : Int32) (nt : Nat) (mtaped : Int32) (nr : Nat) (mrowMany : Int32) (mroundOf : Int32) (mroundFrom : Int32) (mouts : Int32) (nm : Nat) (mfromHour : Int32) (mtoHour : Int32) (ns : Nat) (mfrom : Int32) (mto : Int32) (msort : Int32) (misFault : Int32) (mdeep : Int32) (mcoded : Int32) (mlines : Int32) (nl : Nat) (nc : Nat) (nF : Nat) (np : Nat) (ntr : Nat) (nb : Nat) (mbestCost : Int32) (nso : Nat) (nsi : Nat) (nit : Nat) (nsh : Nat) (nsf : Nat) (nss : Nat) (nrc : Nat) (jr : Nat) (mdealer : Int32) (mnumber : Int32) (mwhose : Int32) (msize : Int32) (misParted : Int32) (fnrc : Nat → Int32) (hjr : jr ≤ 30) : MV l G yX12_began cX12_began 2 1 0 0 [.ref h0, .int bo] [(h0, .inr (12, [.ref nw, .ref nk, .int mhasKept, .ref nt, .int mtaped, .ref nr, .int mrowMany, .int mroundOf, .int mroundFrom, .int mouts, .ref nm, .int mfromHour, .int mtoHour, .ref ns, .int mfrom, .int mto, .int msort, .int misFault, .int mdeep, .int mcoded, .int mlines, .ref nl, .ref nc, .ref nF, .ref np, .ref ntr, .ref nb, .int mbestCost, .ref nso, .ref nsi, .ref nit, .ref nsh, .ref nsf, .ref nss, .ref nrc, .int (nI jr), .int mdealer, .int mnumber, .int mwhose, .int msize, .int misParted])), (nrc, .inl (G.2.1, 30, .inl fnrc))] (fun u : Nat × (Nat → Int32) => u.1 ≤ 30) (fun u : Nat × (Nat → Int32) => [(h0, .inr (12, [.ref nw, .ref nk, .int mhasKept, .ref nt, .int mtaped, .ref nr, .int mrowMany, .int mroundOf, .int mroundFrom, .int mouts, .ref nm, .int mfromHour, .int mtoHour, .ref ns, .int mfrom, .int mto, .int msort, .int misFault, .int mdeep, .int mcoded, .int mlines, .ref nl, .ref nc, .ref nF, .ref np, .ref ntr, .ref nb, .int mbestCost, .ref nso, .ref nsi, .ref nit, .ref nsh, .ref nsf, .ref nss, .ref nrc, .int (nI u.1), .int mdealer, .int mnumber, .int mwhose, .int msize, .int misParted])), (nrc, .inl (G.2.1, 30, .inl u.2))]) := by
  refine MV.start (by decide +kernel) (Nat.le_of_ble_eq_true rfl) ?_
  intro p e s m below meth c A ls hC hK hP hD hS hA hl
  have hl : lv_has ls 2 [(0, .ref h0), (1, .int bo)] := hl
  obtain ⟨hx, hb, hr, hml, hB, hown, hlocks, hnm⟩ := id hC
  refine lv_aload_n hx hb dX12_began_0 rfl (lv_at hl 0 rfl) ?_
  refine gf_X12_351 hC rfl hK hP 0 rfl rfl dX12_began_1 ?_
  refine lv_bipush (v := 30) hx hb dX12_began_4 (by decide) ?_
  refine lv_icmp_ge (tgt := 29) hx hb dX12_began_6 (by decide) (fun c_6_5709 => ?_) (fun c_6_5709 => ?_)
  · exact RV hC hP hD hS [0, 1] (jr, fnrc) rfl rfl (by decide) (by omega) dX12_began_29
  · have hjr9 := nge_nat (R := 30) (k := jr) (by decide) (by omega) c_6_5709
    refine lv_aload_n hx hb dX12_began_9 rfl (lv_at hl 0 rfl) ?_
    refine gf_X12_81 hC rfl hK hP 0 rfl rfl dX12_began_10 ?_
    refine lv_aload_n hx hb dX12_began_13 rfl (lv_at hl 0 rfl) ?_
    refine gf_X12_351 hC rfl hK hP 0 rfl rfl dX12_began_14 ?_
    refine lv_iload_n hx hb dX12_began_17 rfl (lv_at hl 1 rfl) ?_
    refine ast hC hK hP hD hS 1 (ws' := [(h0, .inr (12, [.ref nw, .ref nk, .int mhasKept, .ref nt, .int mtaped, .ref nr, .int mrowMany, .int mroundOf, .int mroundFrom, .int mouts, .ref nm, .int mfromHour, .int mtoHour, .ref ns, .int mfrom, .int mto, .int msort, .int misFault, .int mdeep, .int mcoded, .int mlines, .ref nl, .ref nc, .ref nF, .ref np, .ref ntr, .ref nb, .int mbestCost, .ref nso, .ref nsi, .ref nit, .ref nsh, .ref nsf, .ref nss, .ref nrc, .int (nI jr), .int mdealer, .int mnumber, .int mwhose, .int msize, .int misParted])), (nrc, .inl (G.2.1, 30, .inl (upd fnrc jr bo)))]) rfl (vp_in_nI (by omega) (by omega)) (k := jr) (nI_clamp (by omega)) (rfl) dX12_began_18 (fun H locs hP hD hS => ?_)
    refine lv_aload_n hx hb dX12_began_19 rfl (lv_at hl 0 rfl) ?_
    refine lv_dup hx hb dX12_began_20 rfl ?_
    refine gf_X12_351 hC rfl hK hP 0 rfl rfl dX12_began_21 ?_
    refine lv_iconst (v := 1) hx hb dX12_began_24 (by decide) ?_
    refine lv_iadd hx hb dX12_began_25 ?_
    refine eqi (x1 := nI (jr + 1)) (nI_add jr 1) ?_
    refine pf_X12_351 hC rfl hK hP hD hS 0 (ws' := [(h0, .inr (12, [.ref nw, .ref nk, .int mhasKept, .ref nt, .int mtaped, .ref nr, .int mrowMany, .int mroundOf, .int mroundFrom, .int mouts, .ref nm, .int mfromHour, .int mtoHour, .ref ns, .int mfrom, .int mto, .int msort, .int misFault, .int mdeep, .int mcoded, .int mlines, .ref nl, .ref nc, .ref nF, .ref np, .ref ntr, .ref nb, .int mbestCost, .ref nso, .ref nsi, .ref nit, .ref nsh, .ref nsf, .ref nss, .ref nrc, .int (nI (jr + 1)), .int mdealer, .int mnumber, .int mwhose, .int msize, .int misParted])), (nrc, .inl (G.2.1, 30, .inl (upd fnrc jr bo)))]) rfl (Nat.le_of_ble_eq_true rfl) rfl rfl rfl dX12_began_26 (fun H locs hP hD hS => ?_)
    exact RV hC hP hD hS [0, 1] ((jr + 1), upd fnrc jr bo) rfl rfl (by decide) (by omega) dX12_began_29
set_option maxHeartbeats 4000000 in
set_option maxRecDepth 100000 in
theorem m_body00 (l : Launch) (G : GG) (h0 : Nat) (xx : Int32) (nw : Nat) (nk : Nat) (mhasKept : Int32) (nt : Nat) (mtaped : Int32) (nr : Nat) (mrowMany : Int32) (mroundOf : Int32) (mroundFrom : Int32) (mouts : Int32) (nm : Nat) (mfromHour : Int32) (mtoHour : Int32) (ns : Nat) (mfrom : Int32) (mto : Int32) (msort : Int32) (misFault : Int32) (mdeep : Int32) (mcoded : Int32) (mlines : Int32) (nl : Nat) (nc : Nat) (nF : Nat) (np : Nat) (ntr : Nat) (nb : Nat) (mbestCost : Int32) (nso : Nat) (nsi : Nat) (nit : Nat) (nsh : Nat) (nsf : Nat) (nss : Nat) (nrc : Nat) (jr : Nat) (jd : Nat) (mnumber : Int32) (mwhose : Int32) (msize : Int32) (misParted : Int32) (fnrc : Nat → Int32) (hjr : jr ≤ 30) (hjd : jd < 7) : MI l G yX12_body cX12_body 6 (some .int) 3 0 0 [.ref h0, .int 0, .int 0, .int xx] [(h0, .inr (12, [.ref nw, .ref nk, .int mhasKept, .ref nt, .int mtaped, .ref nr, .int mrowMany, .int mroundOf, .int mroundFrom, .int mouts, .ref nm, .int mfromHour, .int mtoHour, .ref ns, .int mfrom, .int mto, .int msort, .int misFault, .int mdeep, .int mcoded, .int mlines, .ref nl, .ref nc, .ref nF, .ref np, .ref ntr, .ref nb, .int mbestCost, .ref nso, .ref nsi, .ref nit, .ref nsh, .ref nsf, .ref nss, .ref nrc, .int (nI jr), .int (nI jd), .int mnumber, .int mwhose, .int msize, .int misParted])), (nrc, .inl (G.2.1, 30, .inl fnrc))] (fun (r : Int32) (u : Nat × Int32 × (Nat → Int32)) => (True) ∧ (u.1 ≤ 30)) (fun u : Nat × Int32 × (Nat → Int32) => [(h0, .inr (12, [.ref nw, .ref nk, .int mhasKept, .ref nt, .int mtaped, .ref nr, .int mrowMany, .int mroundOf, .int mroundFrom, .int mouts, .ref nm, .int mfromHour, .int mtoHour, .ref ns, .int mfrom, .int mto, .int msort, .int misFault, .int mdeep, .int mcoded, .int mlines, .ref nl, .ref nc, .ref nF, .ref np, .ref ntr, .ref nb, .int mbestCost, .ref nso, .ref nsi, .ref nit, .ref nsh, .ref nsf, .ref nss, .ref nrc, .int (nI u.1), .int (nI jd), .int mnumber, .int mwhose, .int msize, .int u.2.1])), (nrc, .inl (G.2.1, 30, .inl u.2.2))]) := by
  refine MI.start (by decide +kernel) (Nat.le_of_ble_eq_true rfl) ?_
  intro p e s m below meth c A ls hC hK hP hD hS hA hl
  have hl : lv_has ls 6 [(0, .ref h0), (1, .int 0), (2, .int 0), (3, .int xx)] := hl
  obtain ⟨hx, hb, hr, hml, hB, hown, hlocks, hnm⟩ := id hC
  refine lv_iconst (v := 4) hx hb dX12_body_0 (by decide) ?_
  refine lv_iload_n hx hb dX12_body_1 rfl (lv_at hl 1 rfl) ?_
  refine lv_imul hx hb dX12_body_2 ?_
  refine eqi (x1 := 0) (by decide) ?_
  refine lv_iload_n hx hb dX12_body_3 rfl (lv_at hl 2 rfl) ?_
  refine lv_iadd hx hb dX12_body_4 ?_
  refine eqi (x1 := 0) (by decide) ?_
  refine lv_tableIn (tgt := 112) hx hb dX12_body_5 (by decide) (by decide) rfl (by decide) ?_
  refine lv_aload_n hx hb dX12_body_112 rfl (lv_at hl 0 rfl) ?_
  refine lv_bipush (v := 10) hx hb dX12_body_113 (by decide) ?_
  refine vV (wr := []) hC hK hl hP hD hS hA (m_began l G h0 10 nw nk mhasKept nt mtaped nr mrowMany mroundOf mroundFrom mouts nm mfromHour mtoHour ns mfrom mto msort misFault mdeep mcoded mlines nl nc nF np ntr nb mbestCost nso nsi nit nsh nsf nss nrc jr (nI jd) mnumber mwhose msize misParted fnrc (by omega)) si_X12_366 [0, 1] [] rfl rfl (by decide) rfl (by decide) (by decide) rfl rfl rfl rfl rfl (Nat.le_of_ble_eq_true rfl) ⟨Nat.le_of_ble_eq_true rfl, Nat.le_of_ble_eq_true rfl⟩ ⟨Nat.le_of_ble_eq_true rfl, Nat.le_of_ble_eq_true rfl⟩ dX12_body_115 (fun u5711 H locs hr5710 hP hD hS => ?_)
  obtain ⟨jr15712, gtrc5713⟩ := u5711
  try dsimp only at hr5710
  have hP : va_P G.1 vwCl [(h0, .inr (12, [.ref nw, .ref nk, .int mhasKept, .ref nt, .int mtaped, .ref nr, .int mrowMany, .int mroundOf, .int mroundFrom, .int mouts, .ref nm, .int mfromHour, .int mtoHour, .ref ns, .int mfrom, .int mto, .int msort, .int misFault, .int mdeep, .int mcoded, .int mlines, .ref nl, .ref nc, .ref nF, .ref np, .ref ntr, .ref nb, .int mbestCost, .ref nso, .ref nsi, .ref nit, .ref nsh, .ref nsf, .ref nss, .ref nrc, .int (nI jr15712), .int (nI jd), .int mnumber, .int mwhose, .int msize, .int misParted])), (nrc, .inl (G.2.1, 30, .inl gtrc5713))] H := hP
  have hD : va_D A [(h0, .inr (12, [.ref nw, .ref nk, .int mhasKept, .ref nt, .int mtaped, .ref nr, .int mrowMany, .int mroundOf, .int mroundFrom, .int mouts, .ref nm, .int mfromHour, .int mtoHour, .ref ns, .int mfrom, .int mto, .int msort, .int misFault, .int mdeep, .int mcoded, .int mlines, .ref nl, .ref nc, .ref nF, .ref np, .ref ntr, .ref nb, .int mbestCost, .ref nso, .ref nsi, .ref nit, .ref nsh, .ref nsf, .ref nss, .ref nrc, .int (nI jr15712), .int (nI jd), .int mnumber, .int mwhose, .int msize, .int misParted])), (nrc, .inl (G.2.1, 30, .inl gtrc5713))] := hD
  have w5714 := hr5710
  refine lv_iload_n hx hb dX12_body_118 rfl (lv_at hl 3 rfl) ?_
  refine lv_aload_n hx hb dX12_body_119 rfl (lv_at hl 0 rfl) ?_
  refine gf_X12_369 hC rfl hK hP 0 rfl rfl dX12_body_120 ?_
  refine lv_iadd hx hb dX12_body_123 ?_
  exact RI (v := xx + msize) hC hP hD hS [0, 1] (jr15712, misParted, gtrc5713) rfl rfl (by decide) (⟨trivial, by omega⟩) rfl dX12_body_124
set_option maxHeartbeats 4000000 in
set_option maxRecDepth 100000 in
theorem m_from00 (l : Launch) (G : GG) (h0 : Nat) (xx : Int32) (nw : Nat) (nk : Nat) (mhasKept : Int32) (nt : Nat) (mtaped : Int32) (nr : Nat) (mrowMany : Int32) (mroundOf : Int32) (mroundFrom : Int32) (mouts : Int32) (nm : Nat) (mfromHour : Int32) (mtoHour : Int32) (ns : Nat) (mfrom : Int32) (mto : Int32) (msort : Int32) (misFault : Int32) (mdeep : Int32) (mcoded : Int32) (mlines : Int32) (nl : Nat) (nc : Nat) (nF : Nat) (np : Nat) (ntr : Nat) (nb : Nat) (mbestCost : Int32) (nso : Nat) (nsi : Nat) (nit : Nat) (nsh : Nat) (nsf : Nat) (nss : Nat) (nrc : Nat) (jr : Nat) (jd : Nat) (mnumber : Int32) (mwhose : Int32) (msize : Int32) (misParted : Int32) (fnrc : Nat → Int32) (hjr : jr ≤ 30) (hjd : jd < 7) : MI l G yX12_bodyFrom cX12_bodyFrom 5 (some .int) 4 0 0 [.ref h0, .int 0, .int 0, .int xx] [(h0, .inr (12, [.ref nw, .ref nk, .int mhasKept, .ref nt, .int mtaped, .ref nr, .int mrowMany, .int mroundOf, .int mroundFrom, .int mouts, .ref nm, .int mfromHour, .int mtoHour, .ref ns, .int mfrom, .int mto, .int msort, .int misFault, .int mdeep, .int mcoded, .int mlines, .ref nl, .ref nc, .ref nF, .ref np, .ref ntr, .ref nb, .int mbestCost, .ref nso, .ref nsi, .ref nit, .ref nsh, .ref nsf, .ref nss, .ref nrc, .int (nI jr), .int (nI jd), .int mnumber, .int mwhose, .int msize, .int misParted])), (nrc, .inl (G.2.1, 30, .inl fnrc))] (fun (r : Int32) (u : Nat × Int32 × (Nat → Int32)) => (True) ∧ (u.1 ≤ 30)) (fun u : Nat × Int32 × (Nat → Int32) => [(h0, .inr (12, [.ref nw, .ref nk, .int mhasKept, .ref nt, .int mtaped, .ref nr, .int mrowMany, .int mroundOf, .int mroundFrom, .int mouts, .ref nm, .int mfromHour, .int mtoHour, .ref ns, .int mfrom, .int mto, .int msort, .int misFault, .int mdeep, .int mcoded, .int mlines, .ref nl, .ref nc, .ref nF, .ref np, .ref ntr, .ref nb, .int mbestCost, .ref nso, .ref nsi, .ref nit, .ref nsh, .ref nsf, .ref nss, .ref nrc, .int (nI u.1), .int (nI jd), .int mnumber, .int mwhose, .int msize, .int u.2.1])), (nrc, .inl (G.2.1, 30, .inl u.2.2))]) := by
  refine MI.start (by decide +kernel) (Nat.le_of_ble_eq_true rfl) ?_
  intro p e s m below meth c A ls hC hK hP hD hS hA hl
  have hl : lv_has ls 5 [(0, .ref h0), (1, .int 0), (2, .int 0), (3, .int xx)] := hl
  obtain ⟨hx, hb, hr, hml, hB, hown, hlocks, hnm⟩ := id hC
  refine lv_iload_n hx hb dX12_bodyFrom_0 rfl (lv_at hl 1 rfl) ?_
  refine lv_istore (lv' := [(4, .int 0), (0, .ref h0), (1, .int 0), (2, .int 0), (3, .int xx)]) hx hb dX12_bodyFrom_1 hl (by decide) rfl (fun ls hl => ?_)
  refine lv_iload hx hb dX12_bodyFrom_3 (lv_at hl 0 rfl) ?_
  refine lv_iload_n hx hb dX12_bodyFrom_5 rfl (lv_at hl 3 rfl) ?_
  refine pS hC hK hl (m_hasOwn00 l G) si_X12_360 rfl rfl (Nat.le_of_ble_eq_true rfl) ⟨Nat.le_of_ble_eq_true rfl, Nat.le_of_ble_eq_true rfl⟩ ⟨by first | exact Nat.le_of_ble_eq_true rfl | exact Nat.zero_le _, by first | exact Nat.le_of_ble_eq_true rfl | exact Nat.zero_le _⟩ dX12_bodyFrom_6 (fun r5715 hr5715 => ?_)
  obtain rfl := hr5715
  refine lv_if_ne (tgt := 22) hx hb dX12_bodyFrom_9 (by decide) (fun _ => ?_) (fun c9 => absurd c9 (by decide))
  refine lv_aload_n hx hb dX12_bodyFrom_22 rfl (lv_at hl 1 rfl) ?_
  refine lv_iload hx hb dX12_bodyFrom_23 (lv_at hl 0 rfl) ?_
  refine lv_iload_n hx hb dX12_bodyFrom_25 rfl (lv_at hl 3 rfl) ?_
  refine lv_iload_n hx hb dX12_bodyFrom_26 rfl (lv_at hl 4 rfl) ?_
  refine iV (wr := []) hC hK hl hP hD hS hA (m_body00 l G h0 xx nw nk mhasKept nt mtaped nr mrowMany mroundOf mroundFrom mouts nm mfromHour mtoHour ns mfrom mto msort misFault mdeep mcoded mlines nl nc nF np ntr nb mbestCost nso nsi nit nsh nsf nss nrc jr jd mnumber mwhose msize misParted fnrc (by omega) (by omega)) si_X12_363 [0, 1] [] rfl rfl (by decide) rfl (by decide) (by decide) rfl rfl rfl rfl rfl (Nat.le_of_ble_eq_true rfl) ⟨Nat.le_of_ble_eq_true rfl, Nat.le_of_ble_eq_true rfl⟩ ⟨Nat.le_of_ble_eq_true rfl, Nat.le_of_ble_eq_true rfl⟩ dX12_bodyFrom_27 (fun r5717 u5718 H locs hr5717 hP hD hS => ?_)
  obtain ⟨jr15719, ip15720, gtrc5721⟩ := u5718
  try dsimp only at hr5717
  have hP : va_P G.1 vwCl [(h0, .inr (12, [.ref nw, .ref nk, .int mhasKept, .ref nt, .int mtaped, .ref nr, .int mrowMany, .int mroundOf, .int mroundFrom, .int mouts, .ref nm, .int mfromHour, .int mtoHour, .ref ns, .int mfrom, .int mto, .int msort, .int misFault, .int mdeep, .int mcoded, .int mlines, .ref nl, .ref nc, .ref nF, .ref np, .ref ntr, .ref nb, .int mbestCost, .ref nso, .ref nsi, .ref nit, .ref nsh, .ref nsf, .ref nss, .ref nrc, .int (nI jr15719), .int (nI jd), .int mnumber, .int mwhose, .int msize, .int ip15720])), (nrc, .inl (G.2.1, 30, .inl gtrc5721))] H := hP
  have hD : va_D A [(h0, .inr (12, [.ref nw, .ref nk, .int mhasKept, .ref nt, .int mtaped, .ref nr, .int mrowMany, .int mroundOf, .int mroundFrom, .int mouts, .ref nm, .int mfromHour, .int mtoHour, .ref ns, .int mfrom, .int mto, .int msort, .int misFault, .int mdeep, .int mcoded, .int mlines, .ref nl, .ref nc, .ref nF, .ref np, .ref ntr, .ref nb, .int mbestCost, .ref nso, .ref nsi, .ref nit, .ref nsh, .ref nsf, .ref nss, .ref nrc, .int (nI jr15719), .int (nI jd), .int mnumber, .int mwhose, .int msize, .int ip15720])), (nrc, .inl (G.2.1, 30, .inl gtrc5721))] := hD
  obtain ⟨hr5717, w5722⟩ := hr5717
  exact RI (v := r5717) hC hP hD hS [0, 1] (jr15719, ip15720, gtrc5721) rfl rfl (by decide) (⟨trivial, by omega⟩) rfl dX12_bodyFrom_30
set_option maxHeartbeats 4000000 in
set_option maxRecDepth 100000 in
theorem m_body40 (l : Launch) (G : GG) (h0 : Nat) (xx : Int32) (nw : Nat) (nk : Nat) (mhasKept : Int32) (nt : Nat) (mtaped : Int32) (nr : Nat) (mrowMany : Int32) (mroundOf : Int32) (mroundFrom : Int32) (mouts : Int32) (nm : Nat) (mfromHour : Int32) (mtoHour : Int32) (ns : Nat) (mfrom : Int32) (mto : Int32) (msort : Int32) (misFault : Int32) (mdeep : Int32) (mcoded : Int32) (mlines : Int32) (nl : Nat) (nc : Nat) (nF : Nat) (np : Nat) (ntr : Nat) (nb : Nat) (mbestCost : Int32) (nso : Nat) (nsi : Nat) (nit : Nat) (nsh : Nat) (nsf : Nat) (nss : Nat) (nrc : Nat) (jr : Nat) (jd : Nat) (mnumber : Int32) (mwhose : Int32) (msize : Int32) (misParted : Int32) (fnrc : Nat → Int32) (hjr : jr ≤ 30) (hjd : jd < 7) : MI l G yX12_body cX12_body 6 (some .int) 5 0 0 [.ref h0, .int 4, .int 0, .int xx] [(h0, .inr (12, [.ref nw, .ref nk, .int mhasKept, .ref nt, .int mtaped, .ref nr, .int mrowMany, .int mroundOf, .int mroundFrom, .int mouts, .ref nm, .int mfromHour, .int mtoHour, .ref ns, .int mfrom, .int mto, .int msort, .int misFault, .int mdeep, .int mcoded, .int mlines, .ref nl, .ref nc, .ref nF, .ref np, .ref ntr, .ref nb, .int mbestCost, .ref nso, .ref nsi, .ref nit, .ref nsh, .ref nsf, .ref nss, .ref nrc, .int (nI jr), .int (nI jd), .int mnumber, .int mwhose, .int msize, .int misParted])), (nrc, .inl (G.2.1, 30, .inl fnrc))] (fun (r : Int32) (u : Nat × Int32 × (Nat → Int32)) => (True) ∧ (u.1 ≤ 30)) (fun u : Nat × Int32 × (Nat → Int32) => [(h0, .inr (12, [.ref nw, .ref nk, .int mhasKept, .ref nt, .int mtaped, .ref nr, .int mrowMany, .int mroundOf, .int mroundFrom, .int mouts, .ref nm, .int mfromHour, .int mtoHour, .ref ns, .int mfrom, .int mto, .int msort, .int misFault, .int mdeep, .int mcoded, .int mlines, .ref nl, .ref nc, .ref nF, .ref np, .ref ntr, .ref nb, .int mbestCost, .ref nso, .ref nsi, .ref nit, .ref nsh, .ref nsf, .ref nss, .ref nrc, .int (nI u.1), .int (nI jd), .int mnumber, .int mwhose, .int msize, .int u.2.1])), (nrc, .inl (G.2.1, 30, .inl u.2.2))]) := by
  refine MI.start (by decide +kernel) (Nat.le_of_ble_eq_true rfl) ?_
  intro p e s m below meth c A ls hC hK hP hD hS hA hl
  have hl : lv_has ls 6 [(0, .ref h0), (1, .int 4), (2, .int 0), (3, .int xx)] := hl
  obtain ⟨hx, hb, hr, hml, hB, hown, hlocks, hnm⟩ := id hC
  refine lv_iconst (v := 4) hx hb dX12_body_0 (by decide) ?_
  refine lv_iload_n hx hb dX12_body_1 rfl (lv_at hl 1 rfl) ?_
  refine lv_imul hx hb dX12_body_2 ?_
  refine eqi (x1 := 16) (by decide) ?_
  refine lv_iload_n hx hb dX12_body_3 rfl (lv_at hl 2 rfl) ?_
  refine lv_iadd hx hb dX12_body_4 ?_
  refine eqi (x1 := 16) (by decide) ?_
  refine lv_tableIn (tgt := 274) hx hb dX12_body_5 (by decide) (by decide) rfl (by decide) ?_
  refine lv_aload_n hx hb dX12_body_274 rfl (lv_at hl 0 rfl) ?_
  refine lv_bipush (v := 50) hx hb dX12_body_275 (by decide) ?_
  refine vV (wr := []) hC hK hl hP hD hS hA (m_began l G h0 50 nw nk mhasKept nt mtaped nr mrowMany mroundOf mroundFrom mouts nm mfromHour mtoHour ns mfrom mto msort misFault mdeep mcoded mlines nl nc nF np ntr nb mbestCost nso nsi nit nsh nsf nss nrc jr (nI jd) mnumber mwhose msize misParted fnrc (by omega)) si_X12_366 [0, 1] [] rfl rfl (by decide) rfl (by decide) (by decide) rfl rfl rfl rfl rfl (Nat.le_of_ble_eq_true rfl) ⟨Nat.le_of_ble_eq_true rfl, Nat.le_of_ble_eq_true rfl⟩ ⟨Nat.le_of_ble_eq_true rfl, Nat.le_of_ble_eq_true rfl⟩ dX12_body_277 (fun u5724 H locs hr5723 hP hD hS => ?_)
  obtain ⟨jr15725, gtrc5726⟩ := u5724
  try dsimp only at hr5723
  have hP : va_P G.1 vwCl [(h0, .inr (12, [.ref nw, .ref nk, .int mhasKept, .ref nt, .int mtaped, .ref nr, .int mrowMany, .int mroundOf, .int mroundFrom, .int mouts, .ref nm, .int mfromHour, .int mtoHour, .ref ns, .int mfrom, .int mto, .int msort, .int misFault, .int mdeep, .int mcoded, .int mlines, .ref nl, .ref nc, .ref nF, .ref np, .ref ntr, .ref nb, .int mbestCost, .ref nso, .ref nsi, .ref nit, .ref nsh, .ref nsf, .ref nss, .ref nrc, .int (nI jr15725), .int (nI jd), .int mnumber, .int mwhose, .int msize, .int misParted])), (nrc, .inl (G.2.1, 30, .inl gtrc5726))] H := hP
  have hD : va_D A [(h0, .inr (12, [.ref nw, .ref nk, .int mhasKept, .ref nt, .int mtaped, .ref nr, .int mrowMany, .int mroundOf, .int mroundFrom, .int mouts, .ref nm, .int mfromHour, .int mtoHour, .ref ns, .int mfrom, .int mto, .int msort, .int misFault, .int mdeep, .int mcoded, .int mlines, .ref nl, .ref nc, .ref nF, .ref np, .ref ntr, .ref nb, .int mbestCost, .ref nso, .ref nsi, .ref nit, .ref nsh, .ref nsf, .ref nss, .ref nrc, .int (nI jr15725), .int (nI jd), .int mnumber, .int mwhose, .int msize, .int misParted])), (nrc, .inl (G.2.1, 30, .inl gtrc5726))] := hD
  have w5727 := hr5723
  refine lv_aload_n hx hb dX12_body_280 rfl (lv_at hl 0 rfl) ?_
  refine lv_iconst (v := 0) hx hb dX12_body_281 (by decide) ?_
  refine lv_iconst (v := 0) hx hb dX12_body_282 (by decide) ?_
  refine lv_iload_n hx hb dX12_body_283 rfl (lv_at hl 3 rfl) ?_
  refine iV (wr := []) hC hK hl hP hD hS hA (m_from00 l G h0 xx nw nk mhasKept nt mtaped nr mrowMany mroundOf mroundFrom mouts nm mfromHour mtoHour ns mfrom mto msort misFault mdeep mcoded mlines nl nc nF np ntr nb mbestCost nso nsi nit nsh nsf nss nrc jr15725 jd mnumber mwhose msize misParted gtrc5726 (by omega) (by omega)) si_X12_357 [0, 1] [] rfl rfl (by decide) rfl (by decide) (by decide) rfl rfl rfl rfl rfl (Nat.le_of_ble_eq_true rfl) ⟨Nat.le_of_ble_eq_true rfl, Nat.le_of_ble_eq_true rfl⟩ ⟨Nat.le_of_ble_eq_true rfl, Nat.le_of_ble_eq_true rfl⟩ dX12_body_284 (fun r5728 u5729 H locs hr5728 hP hD hS => ?_)
  obtain ⟨jr15730, ip15731, gtrc5732⟩ := u5729
  try dsimp only at hr5728
  have hP : va_P G.1 vwCl [(h0, .inr (12, [.ref nw, .ref nk, .int mhasKept, .ref nt, .int mtaped, .ref nr, .int mrowMany, .int mroundOf, .int mroundFrom, .int mouts, .ref nm, .int mfromHour, .int mtoHour, .ref ns, .int mfrom, .int mto, .int msort, .int misFault, .int mdeep, .int mcoded, .int mlines, .ref nl, .ref nc, .ref nF, .ref np, .ref ntr, .ref nb, .int mbestCost, .ref nso, .ref nsi, .ref nit, .ref nsh, .ref nsf, .ref nss, .ref nrc, .int (nI jr15730), .int (nI jd), .int mnumber, .int mwhose, .int msize, .int ip15731])), (nrc, .inl (G.2.1, 30, .inl gtrc5732))] H := hP
  have hD : va_D A [(h0, .inr (12, [.ref nw, .ref nk, .int mhasKept, .ref nt, .int mtaped, .ref nr, .int mrowMany, .int mroundOf, .int mroundFrom, .int mouts, .ref nm, .int mfromHour, .int mtoHour, .ref ns, .int mfrom, .int mto, .int msort, .int misFault, .int mdeep, .int mcoded, .int mlines, .ref nl, .ref nc, .ref nF, .ref np, .ref ntr, .ref nb, .int mbestCost, .ref nso, .ref nsi, .ref nit, .ref nsh, .ref nsf, .ref nss, .ref nrc, .int (nI jr15730), .int (nI jd), .int mnumber, .int mwhose, .int msize, .int ip15731])), (nrc, .inl (G.2.1, 30, .inl gtrc5732))] := hD
  obtain ⟨hr5728, w5733⟩ := hr5728
  refine lv_aload_n hx hb dX12_body_287 rfl (lv_at hl 0 rfl) ?_
  refine gf_X12_378 hC rfl hK hP 0 rfl rfl dX12_body_288 ?_
  refine lv_isub hx hb dX12_body_291 ?_
  exact RI (v := r5728 - mnumber) hC hP hD hS [0, 1] (jr15730, ip15731, gtrc5732) rfl rfl (by decide) (⟨trivial, by omega⟩) rfl dX12_body_292
set_option maxHeartbeats 4000000 in
set_option maxRecDepth 100000 in
theorem m_from40 (l : Launch) (G : GG) (h0 : Nat) (xx : Int32) (nw : Nat) (nk : Nat) (mhasKept : Int32) (nt : Nat) (mtaped : Int32) (nr : Nat) (mrowMany : Int32) (mroundOf : Int32) (mroundFrom : Int32) (mouts : Int32) (nm : Nat) (mfromHour : Int32) (mtoHour : Int32) (ns : Nat) (mfrom : Int32) (mto : Int32) (msort : Int32) (misFault : Int32) (mdeep : Int32) (mcoded : Int32) (mlines : Int32) (nl : Nat) (nc : Nat) (nF : Nat) (np : Nat) (ntr : Nat) (nb : Nat) (mbestCost : Int32) (nso : Nat) (nsi : Nat) (nit : Nat) (nsh : Nat) (nsf : Nat) (nss : Nat) (nrc : Nat) (jr : Nat) (jd : Nat) (mnumber : Int32) (mwhose : Int32) (msize : Int32) (misParted : Int32) (fnrc : Nat → Int32) (hjr : jr ≤ 30) (hjd : jd < 7) : MI l G yX12_bodyFrom cX12_bodyFrom 5 (some .int) 6 0 0 [.ref h0, .int 4, .int 0, .int xx] [(h0, .inr (12, [.ref nw, .ref nk, .int mhasKept, .ref nt, .int mtaped, .ref nr, .int mrowMany, .int mroundOf, .int mroundFrom, .int mouts, .ref nm, .int mfromHour, .int mtoHour, .ref ns, .int mfrom, .int mto, .int msort, .int misFault, .int mdeep, .int mcoded, .int mlines, .ref nl, .ref nc, .ref nF, .ref np, .ref ntr, .ref nb, .int mbestCost, .ref nso, .ref nsi, .ref nit, .ref nsh, .ref nsf, .ref nss, .ref nrc, .int (nI jr), .int (nI jd), .int mnumber, .int mwhose, .int msize, .int misParted])), (nrc, .inl (G.2.1, 30, .inl fnrc))] (fun (r : Int32) (u : Nat × Int32 × (Nat → Int32)) => (True) ∧ (u.1 ≤ 30)) (fun u : Nat × Int32 × (Nat → Int32) => [(h0, .inr (12, [.ref nw, .ref nk, .int mhasKept, .ref nt, .int mtaped, .ref nr, .int mrowMany, .int mroundOf, .int mroundFrom, .int mouts, .ref nm, .int mfromHour, .int mtoHour, .ref ns, .int mfrom, .int mto, .int msort, .int misFault, .int mdeep, .int mcoded, .int mlines, .ref nl, .ref nc, .ref nF, .ref np, .ref ntr, .ref nb, .int mbestCost, .ref nso, .ref nsi, .ref nit, .ref nsh, .ref nsf, .ref nss, .ref nrc, .int (nI u.1), .int (nI jd), .int mnumber, .int mwhose, .int msize, .int u.2.1])), (nrc, .inl (G.2.1, 30, .inl u.2.2))]) := by
  refine MI.start (by decide +kernel) (Nat.le_of_ble_eq_true rfl) ?_
  intro p e s m below meth c A ls hC hK hP hD hS hA hl
  have hl : lv_has ls 5 [(0, .ref h0), (1, .int 4), (2, .int 0), (3, .int xx)] := hl
  obtain ⟨hx, hb, hr, hml, hB, hown, hlocks, hnm⟩ := id hC
  refine lv_iload_n hx hb dX12_bodyFrom_0 rfl (lv_at hl 1 rfl) ?_
  refine lv_istore (lv' := [(4, .int 4), (0, .ref h0), (1, .int 4), (2, .int 0), (3, .int xx)]) hx hb dX12_bodyFrom_1 hl (by decide) rfl (fun ls hl => ?_)
  refine lv_iload hx hb dX12_bodyFrom_3 (lv_at hl 0 rfl) ?_
  refine lv_iload_n hx hb dX12_bodyFrom_5 rfl (lv_at hl 3 rfl) ?_
  refine pS hC hK hl (m_hasOwn40 l G) si_X12_360 rfl rfl (Nat.le_of_ble_eq_true rfl) ⟨Nat.le_of_ble_eq_true rfl, Nat.le_of_ble_eq_true rfl⟩ ⟨by first | exact Nat.le_of_ble_eq_true rfl | exact Nat.zero_le _, by first | exact Nat.le_of_ble_eq_true rfl | exact Nat.zero_le _⟩ dX12_bodyFrom_6 (fun r5734 hr5734 => ?_)
  obtain rfl := hr5734
  refine lv_if_ne (tgt := 22) hx hb dX12_bodyFrom_9 (by decide) (fun _ => ?_) (fun c9 => absurd c9 (by decide))
  refine lv_aload_n hx hb dX12_bodyFrom_22 rfl (lv_at hl 1 rfl) ?_
  refine lv_iload hx hb dX12_bodyFrom_23 (lv_at hl 0 rfl) ?_
  refine lv_iload_n hx hb dX12_bodyFrom_25 rfl (lv_at hl 3 rfl) ?_
  refine lv_iload_n hx hb dX12_bodyFrom_26 rfl (lv_at hl 4 rfl) ?_
  refine iV (wr := []) hC hK hl hP hD hS hA (m_body40 l G h0 xx nw nk mhasKept nt mtaped nr mrowMany mroundOf mroundFrom mouts nm mfromHour mtoHour ns mfrom mto msort misFault mdeep mcoded mlines nl nc nF np ntr nb mbestCost nso nsi nit nsh nsf nss nrc jr jd mnumber mwhose msize misParted fnrc (by omega) (by omega)) si_X12_363 [0, 1] [] rfl rfl (by decide) rfl (by decide) (by decide) rfl rfl rfl rfl rfl (Nat.le_of_ble_eq_true rfl) ⟨Nat.le_of_ble_eq_true rfl, Nat.le_of_ble_eq_true rfl⟩ ⟨Nat.le_of_ble_eq_true rfl, Nat.le_of_ble_eq_true rfl⟩ dX12_bodyFrom_27 (fun r5736 u5737 H locs hr5736 hP hD hS => ?_)
  obtain ⟨jr15738, ip15739, gtrc5740⟩ := u5737
  try dsimp only at hr5736
  have hP : va_P G.1 vwCl [(h0, .inr (12, [.ref nw, .ref nk, .int mhasKept, .ref nt, .int mtaped, .ref nr, .int mrowMany, .int mroundOf, .int mroundFrom, .int mouts, .ref nm, .int mfromHour, .int mtoHour, .ref ns, .int mfrom, .int mto, .int msort, .int misFault, .int mdeep, .int mcoded, .int mlines, .ref nl, .ref nc, .ref nF, .ref np, .ref ntr, .ref nb, .int mbestCost, .ref nso, .ref nsi, .ref nit, .ref nsh, .ref nsf, .ref nss, .ref nrc, .int (nI jr15738), .int (nI jd), .int mnumber, .int mwhose, .int msize, .int ip15739])), (nrc, .inl (G.2.1, 30, .inl gtrc5740))] H := hP
  have hD : va_D A [(h0, .inr (12, [.ref nw, .ref nk, .int mhasKept, .ref nt, .int mtaped, .ref nr, .int mrowMany, .int mroundOf, .int mroundFrom, .int mouts, .ref nm, .int mfromHour, .int mtoHour, .ref ns, .int mfrom, .int mto, .int msort, .int misFault, .int mdeep, .int mcoded, .int mlines, .ref nl, .ref nc, .ref nF, .ref np, .ref ntr, .ref nb, .int mbestCost, .ref nso, .ref nsi, .ref nit, .ref nsh, .ref nsf, .ref nss, .ref nrc, .int (nI jr15738), .int (nI jd), .int mnumber, .int mwhose, .int msize, .int ip15739])), (nrc, .inl (G.2.1, 30, .inl gtrc5740))] := hD
  obtain ⟨hr5736, w5741⟩ := hr5736
  exact RI (v := r5736) hC hP hD hS [0, 1] (jr15738, ip15739, gtrc5740) rfl rfl (by decide) (⟨trivial, by omega⟩) rfl dX12_bodyFrom_30
set_option maxHeartbeats 4000000 in
set_option maxRecDepth 100000 in
theorem m_body50 (l : Launch) (G : GG) (h0 : Nat) (xx : Int32) (nw : Nat) (nk : Nat) (mhasKept : Int32) (nt : Nat) (mtaped : Int32) (nr : Nat) (mrowMany : Int32) (mroundOf : Int32) (mroundFrom : Int32) (mouts : Int32) (nm : Nat) (mfromHour : Int32) (mtoHour : Int32) (ns : Nat) (mfrom : Int32) (mto : Int32) (msort : Int32) (misFault : Int32) (mdeep : Int32) (mcoded : Int32) (mlines : Int32) (nl : Nat) (nc : Nat) (nF : Nat) (np : Nat) (ntr : Nat) (nb : Nat) (mbestCost : Int32) (nso : Nat) (nsi : Nat) (nit : Nat) (nsh : Nat) (nsf : Nat) (nss : Nat) (nrc : Nat) (jr : Nat) (jd : Nat) (mnumber : Int32) (mwhose : Int32) (msize : Int32) (misParted : Int32) (fnrc : Nat → Int32) (hjr : jr ≤ 30) (hjd : jd < 7) : MI l G yX12_body cX12_body 6 (some .int) 7 0 0 [.ref h0, .int 5, .int 0, .int xx] [(h0, .inr (12, [.ref nw, .ref nk, .int mhasKept, .ref nt, .int mtaped, .ref nr, .int mrowMany, .int mroundOf, .int mroundFrom, .int mouts, .ref nm, .int mfromHour, .int mtoHour, .ref ns, .int mfrom, .int mto, .int msort, .int misFault, .int mdeep, .int mcoded, .int mlines, .ref nl, .ref nc, .ref nF, .ref np, .ref ntr, .ref nb, .int mbestCost, .ref nso, .ref nsi, .ref nit, .ref nsh, .ref nsf, .ref nss, .ref nrc, .int (nI jr), .int (nI jd), .int mnumber, .int mwhose, .int msize, .int misParted])), (nrc, .inl (G.2.1, 30, .inl fnrc))] (fun (r : Int32) (u : Nat × Int32 × (Nat → Int32)) => (True) ∧ (u.1 ≤ 30)) (fun u : Nat × Int32 × (Nat → Int32) => [(h0, .inr (12, [.ref nw, .ref nk, .int mhasKept, .ref nt, .int mtaped, .ref nr, .int mrowMany, .int mroundOf, .int mroundFrom, .int mouts, .ref nm, .int mfromHour, .int mtoHour, .ref ns, .int mfrom, .int mto, .int msort, .int misFault, .int mdeep, .int mcoded, .int mlines, .ref nl, .ref nc, .ref nF, .ref np, .ref ntr, .ref nb, .int mbestCost, .ref nso, .ref nsi, .ref nit, .ref nsh, .ref nsf, .ref nss, .ref nrc, .int (nI u.1), .int (nI jd), .int mnumber, .int mwhose, .int msize, .int u.2.1])), (nrc, .inl (G.2.1, 30, .inl u.2.2))]) := by
  refine MI.start (by decide +kernel) (Nat.le_of_ble_eq_true rfl) ?_
  intro p e s m below meth c A ls hC hK hP hD hS hA hl
  have hl : lv_has ls 6 [(0, .ref h0), (1, .int 5), (2, .int 0), (3, .int xx)] := hl
  obtain ⟨hx, hb, hr, hml, hB, hown, hlocks, hnm⟩ := id hC
  refine lv_iconst (v := 4) hx hb dX12_body_0 (by decide) ?_
  refine lv_iload_n hx hb dX12_body_1 rfl (lv_at hl 1 rfl) ?_
  refine lv_imul hx hb dX12_body_2 ?_
  refine eqi (x1 := 20) (by decide) ?_
  refine lv_iload_n hx hb dX12_body_3 rfl (lv_at hl 2 rfl) ?_
  refine lv_iadd hx hb dX12_body_4 ?_
  refine eqi (x1 := 20) (by decide) ?_
  refine lv_tableIn (tgt := 334) hx hb dX12_body_5 (by decide) (by decide) rfl (by decide) ?_
  refine lv_aload_n hx hb dX12_body_334 rfl (lv_at hl 0 rfl) ?_
  refine lv_bipush (v := 61) hx hb dX12_body_335 (by decide) ?_
  refine vV (wr := []) hC hK hl hP hD hS hA (m_began l G h0 61 nw nk mhasKept nt mtaped nr mrowMany mroundOf mroundFrom mouts nm mfromHour mtoHour ns mfrom mto msort misFault mdeep mcoded mlines nl nc nF np ntr nb mbestCost nso nsi nit nsh nsf nss nrc jr (nI jd) mnumber mwhose msize misParted fnrc (by omega)) si_X12_366 [0, 1] [] rfl rfl (by decide) rfl (by decide) (by decide) rfl rfl rfl rfl rfl (Nat.le_of_ble_eq_true rfl) ⟨Nat.le_of_ble_eq_true rfl, Nat.le_of_ble_eq_true rfl⟩ ⟨Nat.le_of_ble_eq_true rfl, Nat.le_of_ble_eq_true rfl⟩ dX12_body_337 (fun u5743 H locs hr5742 hP hD hS => ?_)
  obtain ⟨jr15744, gtrc5745⟩ := u5743
  try dsimp only at hr5742
  have hP : va_P G.1 vwCl [(h0, .inr (12, [.ref nw, .ref nk, .int mhasKept, .ref nt, .int mtaped, .ref nr, .int mrowMany, .int mroundOf, .int mroundFrom, .int mouts, .ref nm, .int mfromHour, .int mtoHour, .ref ns, .int mfrom, .int mto, .int msort, .int misFault, .int mdeep, .int mcoded, .int mlines, .ref nl, .ref nc, .ref nF, .ref np, .ref ntr, .ref nb, .int mbestCost, .ref nso, .ref nsi, .ref nit, .ref nsh, .ref nsf, .ref nss, .ref nrc, .int (nI jr15744), .int (nI jd), .int mnumber, .int mwhose, .int msize, .int misParted])), (nrc, .inl (G.2.1, 30, .inl gtrc5745))] H := hP
  have hD : va_D A [(h0, .inr (12, [.ref nw, .ref nk, .int mhasKept, .ref nt, .int mtaped, .ref nr, .int mrowMany, .int mroundOf, .int mroundFrom, .int mouts, .ref nm, .int mfromHour, .int mtoHour, .ref ns, .int mfrom, .int mto, .int msort, .int misFault, .int mdeep, .int mcoded, .int mlines, .ref nl, .ref nc, .ref nF, .ref np, .ref ntr, .ref nb, .int mbestCost, .ref nso, .ref nsi, .ref nit, .ref nsh, .ref nsf, .ref nss, .ref nrc, .int (nI jr15744), .int (nI jd), .int mnumber, .int mwhose, .int msize, .int misParted])), (nrc, .inl (G.2.1, 30, .inl gtrc5745))] := hD
  have w5746 := hr5742
  refine lv_aload_n hx hb dX12_body_340 rfl (lv_at hl 0 rfl) ?_
  refine lv_iconst (v := 4) hx hb dX12_body_341 (by decide) ?_
  refine lv_iconst (v := 0) hx hb dX12_body_342 (by decide) ?_
  refine lv_iload_n hx hb dX12_body_343 rfl (lv_at hl 3 rfl) ?_
  refine lv_aload_n hx hb dX12_body_344 rfl (lv_at hl 0 rfl) ?_
  refine gf_X12_375 hC rfl hK hP 0 rfl rfl dX12_body_345 ?_
  refine lv_iadd hx hb dX12_body_348 ?_
  refine iV (wr := []) hC hK hl hP hD hS hA (m_from40 l G h0 (xx + mwhose) nw nk mhasKept nt mtaped nr mrowMany mroundOf mroundFrom mouts nm mfromHour mtoHour ns mfrom mto msort misFault mdeep mcoded mlines nl nc nF np ntr nb mbestCost nso nsi nit nsh nsf nss nrc jr15744 jd mnumber mwhose msize misParted gtrc5745 (by omega) (by omega)) si_X12_357 [0, 1] [] rfl rfl (by decide) rfl (by decide) (by decide) rfl rfl rfl rfl rfl (Nat.le_of_ble_eq_true rfl) ⟨Nat.le_of_ble_eq_true rfl, Nat.le_of_ble_eq_true rfl⟩ ⟨Nat.le_of_ble_eq_true rfl, Nat.le_of_ble_eq_true rfl⟩ dX12_body_349 (fun r5747 u5748 H locs hr5747 hP hD hS => ?_)
  obtain ⟨jr15749, ip15750, gtrc5751⟩ := u5748
  try dsimp only at hr5747
  have hP : va_P G.1 vwCl [(h0, .inr (12, [.ref nw, .ref nk, .int mhasKept, .ref nt, .int mtaped, .ref nr, .int mrowMany, .int mroundOf, .int mroundFrom, .int mouts, .ref nm, .int mfromHour, .int mtoHour, .ref ns, .int mfrom, .int mto, .int msort, .int misFault, .int mdeep, .int mcoded, .int mlines, .ref nl, .ref nc, .ref nF, .ref np, .ref ntr, .ref nb, .int mbestCost, .ref nso, .ref nsi, .ref nit, .ref nsh, .ref nsf, .ref nss, .ref nrc, .int (nI jr15749), .int (nI jd), .int mnumber, .int mwhose, .int msize, .int ip15750])), (nrc, .inl (G.2.1, 30, .inl gtrc5751))] H := hP
  have hD : va_D A [(h0, .inr (12, [.ref nw, .ref nk, .int mhasKept, .ref nt, .int mtaped, .ref nr, .int mrowMany, .int mroundOf, .int mroundFrom, .int mouts, .ref nm, .int mfromHour, .int mtoHour, .ref ns, .int mfrom, .int mto, .int msort, .int misFault, .int mdeep, .int mcoded, .int mlines, .ref nl, .ref nc, .ref nF, .ref np, .ref ntr, .ref nb, .int mbestCost, .ref nso, .ref nsi, .ref nit, .ref nsh, .ref nsf, .ref nss, .ref nrc, .int (nI jr15749), .int (nI jd), .int mnumber, .int mwhose, .int msize, .int ip15750])), (nrc, .inl (G.2.1, 30, .inl gtrc5751))] := hD
  obtain ⟨hr5747, w5752⟩ := hr5747
  exact RI (v := r5747) hC hP hD hS [0, 1] (jr15749, ip15750, gtrc5751) rfl rfl (by decide) (⟨trivial, by omega⟩) rfl dX12_body_352
set_option maxHeartbeats 4000000 in
set_option maxRecDepth 100000 in
theorem m_from50 (l : Launch) (G : GG) (h0 : Nat) (xx : Int32) (nw : Nat) (nk : Nat) (mhasKept : Int32) (nt : Nat) (mtaped : Int32) (nr : Nat) (mrowMany : Int32) (mroundOf : Int32) (mroundFrom : Int32) (mouts : Int32) (nm : Nat) (mfromHour : Int32) (mtoHour : Int32) (ns : Nat) (mfrom : Int32) (mto : Int32) (msort : Int32) (misFault : Int32) (mdeep : Int32) (mcoded : Int32) (mlines : Int32) (nl : Nat) (nc : Nat) (nF : Nat) (np : Nat) (ntr : Nat) (nb : Nat) (mbestCost : Int32) (nso : Nat) (nsi : Nat) (nit : Nat) (nsh : Nat) (nsf : Nat) (nss : Nat) (nrc : Nat) (jr : Nat) (jd : Nat) (mnumber : Int32) (mwhose : Int32) (msize : Int32) (misParted : Int32) (fnrc : Nat → Int32) (hjr : jr ≤ 30) (hjd : jd < 7) : MI l G yX12_bodyFrom cX12_bodyFrom 5 (some .int) 8 0 0 [.ref h0, .int 5, .int 0, .int xx] [(h0, .inr (12, [.ref nw, .ref nk, .int mhasKept, .ref nt, .int mtaped, .ref nr, .int mrowMany, .int mroundOf, .int mroundFrom, .int mouts, .ref nm, .int mfromHour, .int mtoHour, .ref ns, .int mfrom, .int mto, .int msort, .int misFault, .int mdeep, .int mcoded, .int mlines, .ref nl, .ref nc, .ref nF, .ref np, .ref ntr, .ref nb, .int mbestCost, .ref nso, .ref nsi, .ref nit, .ref nsh, .ref nsf, .ref nss, .ref nrc, .int (nI jr), .int (nI jd), .int mnumber, .int mwhose, .int msize, .int misParted])), (nrc, .inl (G.2.1, 30, .inl fnrc))] (fun (r : Int32) (u : Nat × Int32 × (Nat → Int32)) => (True) ∧ (u.1 ≤ 30)) (fun u : Nat × Int32 × (Nat → Int32) => [(h0, .inr (12, [.ref nw, .ref nk, .int mhasKept, .ref nt, .int mtaped, .ref nr, .int mrowMany, .int mroundOf, .int mroundFrom, .int mouts, .ref nm, .int mfromHour, .int mtoHour, .ref ns, .int mfrom, .int mto, .int msort, .int misFault, .int mdeep, .int mcoded, .int mlines, .ref nl, .ref nc, .ref nF, .ref np, .ref ntr, .ref nb, .int mbestCost, .ref nso, .ref nsi, .ref nit, .ref nsh, .ref nsf, .ref nss, .ref nrc, .int (nI u.1), .int (nI jd), .int mnumber, .int mwhose, .int msize, .int u.2.1])), (nrc, .inl (G.2.1, 30, .inl u.2.2))]) := by
  refine MI.start (by decide +kernel) (Nat.le_of_ble_eq_true rfl) ?_
  intro p e s m below meth c A ls hC hK hP hD hS hA hl
  have hl : lv_has ls 5 [(0, .ref h0), (1, .int 5), (2, .int 0), (3, .int xx)] := hl
  obtain ⟨hx, hb, hr, hml, hB, hown, hlocks, hnm⟩ := id hC
  refine lv_iload_n hx hb dX12_bodyFrom_0 rfl (lv_at hl 1 rfl) ?_
  refine lv_istore (lv' := [(4, .int 5), (0, .ref h0), (1, .int 5), (2, .int 0), (3, .int xx)]) hx hb dX12_bodyFrom_1 hl (by decide) rfl (fun ls hl => ?_)
  refine lv_iload hx hb dX12_bodyFrom_3 (lv_at hl 0 rfl) ?_
  refine lv_iload_n hx hb dX12_bodyFrom_5 rfl (lv_at hl 3 rfl) ?_
  refine pS hC hK hl (m_hasOwn50 l G) si_X12_360 rfl rfl (Nat.le_of_ble_eq_true rfl) ⟨Nat.le_of_ble_eq_true rfl, Nat.le_of_ble_eq_true rfl⟩ ⟨by first | exact Nat.le_of_ble_eq_true rfl | exact Nat.zero_le _, by first | exact Nat.le_of_ble_eq_true rfl | exact Nat.zero_le _⟩ dX12_bodyFrom_6 (fun r5753 hr5753 => ?_)
  obtain rfl := hr5753
  refine lv_if_ne (tgt := 22) hx hb dX12_bodyFrom_9 (by decide) (fun _ => ?_) (fun c9 => absurd c9 (by decide))
  refine lv_aload_n hx hb dX12_bodyFrom_22 rfl (lv_at hl 1 rfl) ?_
  refine lv_iload hx hb dX12_bodyFrom_23 (lv_at hl 0 rfl) ?_
  refine lv_iload_n hx hb dX12_bodyFrom_25 rfl (lv_at hl 3 rfl) ?_
  refine lv_iload_n hx hb dX12_bodyFrom_26 rfl (lv_at hl 4 rfl) ?_
  refine iV (wr := []) hC hK hl hP hD hS hA (m_body50 l G h0 xx nw nk mhasKept nt mtaped nr mrowMany mroundOf mroundFrom mouts nm mfromHour mtoHour ns mfrom mto msort misFault mdeep mcoded mlines nl nc nF np ntr nb mbestCost nso nsi nit nsh nsf nss nrc jr jd mnumber mwhose msize misParted fnrc (by omega) (by omega)) si_X12_363 [0, 1] [] rfl rfl (by decide) rfl (by decide) (by decide) rfl rfl rfl rfl rfl (Nat.le_of_ble_eq_true rfl) ⟨Nat.le_of_ble_eq_true rfl, Nat.le_of_ble_eq_true rfl⟩ ⟨Nat.le_of_ble_eq_true rfl, Nat.le_of_ble_eq_true rfl⟩ dX12_bodyFrom_27 (fun r5755 u5756 H locs hr5755 hP hD hS => ?_)
  obtain ⟨jr15757, ip15758, gtrc5759⟩ := u5756
  try dsimp only at hr5755
  have hP : va_P G.1 vwCl [(h0, .inr (12, [.ref nw, .ref nk, .int mhasKept, .ref nt, .int mtaped, .ref nr, .int mrowMany, .int mroundOf, .int mroundFrom, .int mouts, .ref nm, .int mfromHour, .int mtoHour, .ref ns, .int mfrom, .int mto, .int msort, .int misFault, .int mdeep, .int mcoded, .int mlines, .ref nl, .ref nc, .ref nF, .ref np, .ref ntr, .ref nb, .int mbestCost, .ref nso, .ref nsi, .ref nit, .ref nsh, .ref nsf, .ref nss, .ref nrc, .int (nI jr15757), .int (nI jd), .int mnumber, .int mwhose, .int msize, .int ip15758])), (nrc, .inl (G.2.1, 30, .inl gtrc5759))] H := hP
  have hD : va_D A [(h0, .inr (12, [.ref nw, .ref nk, .int mhasKept, .ref nt, .int mtaped, .ref nr, .int mrowMany, .int mroundOf, .int mroundFrom, .int mouts, .ref nm, .int mfromHour, .int mtoHour, .ref ns, .int mfrom, .int mto, .int msort, .int misFault, .int mdeep, .int mcoded, .int mlines, .ref nl, .ref nc, .ref nF, .ref np, .ref ntr, .ref nb, .int mbestCost, .ref nso, .ref nsi, .ref nit, .ref nsh, .ref nsf, .ref nss, .ref nrc, .int (nI jr15757), .int (nI jd), .int mnumber, .int mwhose, .int msize, .int ip15758])), (nrc, .inl (G.2.1, 30, .inl gtrc5759))] := hD
  obtain ⟨hr5755, w5760⟩ := hr5755
  exact RI (v := r5755) hC hP hD hS [0, 1] (jr15757, ip15758, gtrc5759) rfl rfl (by decide) (⟨trivial, by omega⟩) rfl dX12_bodyFrom_30
set_option maxHeartbeats 4000000 in
set_option maxRecDepth 100000 in
theorem m_from10 (l : Launch) (G : GG) (h0 : Nat) (xx : Int32) (nw : Nat) (nk : Nat) (mhasKept : Int32) (nt : Nat) (mtaped : Int32) (nr : Nat) (mrowMany : Int32) (mroundOf : Int32) (mroundFrom : Int32) (mouts : Int32) (nm : Nat) (mfromHour : Int32) (mtoHour : Int32) (ns : Nat) (mfrom : Int32) (mto : Int32) (msort : Int32) (misFault : Int32) (mdeep : Int32) (mcoded : Int32) (mlines : Int32) (nl : Nat) (nc : Nat) (nF : Nat) (np : Nat) (ntr : Nat) (nb : Nat) (mbestCost : Int32) (nso : Nat) (nsi : Nat) (nit : Nat) (nsh : Nat) (nsf : Nat) (nss : Nat) (nrc : Nat) (jr : Nat) (jd : Nat) (mnumber : Int32) (mwhose : Int32) (msize : Int32) (misParted : Int32) (fnrc : Nat → Int32) (hjr : jr ≤ 30) (hjd : jd < 7) : MI l G yX12_bodyFrom cX12_bodyFrom 5 (some .int) 12 0 0 [.ref h0, .int 1, .int 0, .int xx] [(h0, .inr (12, [.ref nw, .ref nk, .int mhasKept, .ref nt, .int mtaped, .ref nr, .int mrowMany, .int mroundOf, .int mroundFrom, .int mouts, .ref nm, .int mfromHour, .int mtoHour, .ref ns, .int mfrom, .int mto, .int msort, .int misFault, .int mdeep, .int mcoded, .int mlines, .ref nl, .ref nc, .ref nF, .ref np, .ref ntr, .ref nb, .int mbestCost, .ref nso, .ref nsi, .ref nit, .ref nsh, .ref nsf, .ref nss, .ref nrc, .int (nI jr), .int (nI jd), .int mnumber, .int mwhose, .int msize, .int misParted])), (nrc, .inl (G.2.1, 30, .inl fnrc))] (fun (r : Int32) (u : Nat × Int32 × (Nat → Int32)) => (True) ∧ (u.1 ≤ 30)) (fun u : Nat × Int32 × (Nat → Int32) => [(h0, .inr (12, [.ref nw, .ref nk, .int mhasKept, .ref nt, .int mtaped, .ref nr, .int mrowMany, .int mroundOf, .int mroundFrom, .int mouts, .ref nm, .int mfromHour, .int mtoHour, .ref ns, .int mfrom, .int mto, .int msort, .int misFault, .int mdeep, .int mcoded, .int mlines, .ref nl, .ref nc, .ref nF, .ref np, .ref ntr, .ref nb, .int mbestCost, .ref nso, .ref nsi, .ref nit, .ref nsh, .ref nsf, .ref nss, .ref nrc, .int (nI u.1), .int (nI jd), .int mnumber, .int mwhose, .int msize, .int u.2.1])), (nrc, .inl (G.2.1, 30, .inl u.2.2))]) := by
  refine MI.start (by decide +kernel) (Nat.le_of_ble_eq_true rfl) ?_
  intro p e s m below meth c A ls hC hK hP hD hS hA hl
  have hl : lv_has ls 5 [(0, .ref h0), (1, .int 1), (2, .int 0), (3, .int xx)] := hl
  obtain ⟨hx, hb, hr, hml, hB, hown, hlocks, hnm⟩ := id hC
  refine lv_iload_n hx hb dX12_bodyFrom_0 rfl (lv_at hl 1 rfl) ?_
  refine lv_istore (lv' := [(4, .int 1), (0, .ref h0), (1, .int 1), (2, .int 0), (3, .int xx)]) hx hb dX12_bodyFrom_1 hl (by decide) rfl (fun ls hl => ?_)
  refine lv_iload hx hb dX12_bodyFrom_3 (lv_at hl 0 rfl) ?_
  refine lv_iload_n hx hb dX12_bodyFrom_5 rfl (lv_at hl 3 rfl) ?_
  refine pS hC hK hl (m_hasOwn10 l G) si_X12_360 rfl rfl (Nat.le_of_ble_eq_true rfl) ⟨Nat.le_of_ble_eq_true rfl, Nat.le_of_ble_eq_true rfl⟩ ⟨by first | exact Nat.le_of_ble_eq_true rfl | exact Nat.zero_le _, by first | exact Nat.le_of_ble_eq_true rfl | exact Nat.zero_le _⟩ dX12_bodyFrom_6 (fun r5761 hr5761 => ?_)
  obtain rfl := hr5761
  refine lv_if_ne (tgt := 22) hx hb dX12_bodyFrom_9 (by decide) (fun c9 => absurd (by decide) c9) (fun _ => ?_)
  refine lv_iload hx hb dX12_bodyFrom_12 (lv_at hl 0 rfl) ?_
  refine pS hC hK hl (m_above1 l G) si_X12_348 rfl rfl (Nat.le_of_ble_eq_true rfl) ⟨Nat.le_of_ble_eq_true rfl, Nat.le_of_ble_eq_true rfl⟩ ⟨by first | exact Nat.le_of_ble_eq_true rfl | exact Nat.zero_le _, by first | exact Nat.le_of_ble_eq_true rfl | exact Nat.zero_le _⟩ dX12_bodyFrom_14 (fun r5763 hr5763 => ?_)
  obtain rfl := hr5763
  refine lv_istore (lv' := [(4, .int 0), (0, .ref h0), (1, .int 1), (2, .int 0), (3, .int xx)]) hx hb dX12_bodyFrom_17 hl (by decide) rfl (fun ls hl => ?_)
  refine lv_goto (tgt := 3) hx hb dX12_bodyFrom_19 (by decide) ?_
  refine lv_iload hx hb dX12_bodyFrom_3 (lv_at hl 0 rfl) ?_
  refine lv_iload_n hx hb dX12_bodyFrom_5 rfl (lv_at hl 3 rfl) ?_
  refine pS hC hK hl (m_hasOwn00 l G) si_X12_360 rfl rfl (Nat.le_of_ble_eq_true rfl) ⟨Nat.le_of_ble_eq_true rfl, Nat.le_of_ble_eq_true rfl⟩ ⟨by first | exact Nat.le_of_ble_eq_true rfl | exact Nat.zero_le _, by first | exact Nat.le_of_ble_eq_true rfl | exact Nat.zero_le _⟩ dX12_bodyFrom_6 (fun r5765 hr5765 => ?_)
  obtain rfl := hr5765
  refine lv_if_ne (tgt := 22) hx hb dX12_bodyFrom_9 (by decide) (fun _ => ?_) (fun c9 => absurd c9 (by decide))
  refine lv_aload_n hx hb dX12_bodyFrom_22 rfl (lv_at hl 1 rfl) ?_
  refine lv_iload hx hb dX12_bodyFrom_23 (lv_at hl 0 rfl) ?_
  refine lv_iload_n hx hb dX12_bodyFrom_25 rfl (lv_at hl 3 rfl) ?_
  refine lv_iload_n hx hb dX12_bodyFrom_26 rfl (lv_at hl 4 rfl) ?_
  refine iV (wr := []) hC hK hl hP hD hS hA (m_body00 l G h0 xx nw nk mhasKept nt mtaped nr mrowMany mroundOf mroundFrom mouts nm mfromHour mtoHour ns mfrom mto msort misFault mdeep mcoded mlines nl nc nF np ntr nb mbestCost nso nsi nit nsh nsf nss nrc jr jd mnumber mwhose msize misParted fnrc (by omega) (by omega)) si_X12_363 [0, 1] [] rfl rfl (by decide) rfl (by decide) (by decide) rfl rfl rfl rfl rfl (Nat.le_of_ble_eq_true rfl) ⟨Nat.le_of_ble_eq_true rfl, Nat.le_of_ble_eq_true rfl⟩ ⟨Nat.le_of_ble_eq_true rfl, Nat.le_of_ble_eq_true rfl⟩ dX12_bodyFrom_27 (fun r5767 u5768 H locs hr5767 hP hD hS => ?_)
  obtain ⟨jr15769, ip15770, gtrc5771⟩ := u5768
  try dsimp only at hr5767
  have hP : va_P G.1 vwCl [(h0, .inr (12, [.ref nw, .ref nk, .int mhasKept, .ref nt, .int mtaped, .ref nr, .int mrowMany, .int mroundOf, .int mroundFrom, .int mouts, .ref nm, .int mfromHour, .int mtoHour, .ref ns, .int mfrom, .int mto, .int msort, .int misFault, .int mdeep, .int mcoded, .int mlines, .ref nl, .ref nc, .ref nF, .ref np, .ref ntr, .ref nb, .int mbestCost, .ref nso, .ref nsi, .ref nit, .ref nsh, .ref nsf, .ref nss, .ref nrc, .int (nI jr15769), .int (nI jd), .int mnumber, .int mwhose, .int msize, .int ip15770])), (nrc, .inl (G.2.1, 30, .inl gtrc5771))] H := hP
  have hD : va_D A [(h0, .inr (12, [.ref nw, .ref nk, .int mhasKept, .ref nt, .int mtaped, .ref nr, .int mrowMany, .int mroundOf, .int mroundFrom, .int mouts, .ref nm, .int mfromHour, .int mtoHour, .ref ns, .int mfrom, .int mto, .int msort, .int misFault, .int mdeep, .int mcoded, .int mlines, .ref nl, .ref nc, .ref nF, .ref np, .ref ntr, .ref nb, .int mbestCost, .ref nso, .ref nsi, .ref nit, .ref nsh, .ref nsf, .ref nss, .ref nrc, .int (nI jr15769), .int (nI jd), .int mnumber, .int mwhose, .int msize, .int ip15770])), (nrc, .inl (G.2.1, 30, .inl gtrc5771))] := hD
  obtain ⟨hr5767, w5772⟩ := hr5767
  exact RI (v := r5767) hC hP hD hS [0, 1] (jr15769, ip15770, gtrc5771) rfl rfl (by decide) (⟨trivial, by omega⟩) rfl dX12_bodyFrom_30
set_option maxHeartbeats 4000000 in
set_option maxRecDepth 100000 in
theorem m_from20 (l : Launch) (G : GG) (h0 : Nat) (xx : Int32) (nw : Nat) (nk : Nat) (mhasKept : Int32) (nt : Nat) (mtaped : Int32) (nr : Nat) (mrowMany : Int32) (mroundOf : Int32) (mroundFrom : Int32) (mouts : Int32) (nm : Nat) (mfromHour : Int32) (mtoHour : Int32) (ns : Nat) (mfrom : Int32) (mto : Int32) (msort : Int32) (misFault : Int32) (mdeep : Int32) (mcoded : Int32) (mlines : Int32) (nl : Nat) (nc : Nat) (nF : Nat) (np : Nat) (ntr : Nat) (nb : Nat) (mbestCost : Int32) (nso : Nat) (nsi : Nat) (nit : Nat) (nsh : Nat) (nsf : Nat) (nss : Nat) (nrc : Nat) (jr : Nat) (jd : Nat) (mnumber : Int32) (mwhose : Int32) (msize : Int32) (misParted : Int32) (fnrc : Nat → Int32) (hjr : jr ≤ 30) (hjd : jd < 7) : MI l G yX12_bodyFrom cX12_bodyFrom 5 (some .int) 12 0 0 [.ref h0, .int 2, .int 0, .int xx] [(h0, .inr (12, [.ref nw, .ref nk, .int mhasKept, .ref nt, .int mtaped, .ref nr, .int mrowMany, .int mroundOf, .int mroundFrom, .int mouts, .ref nm, .int mfromHour, .int mtoHour, .ref ns, .int mfrom, .int mto, .int msort, .int misFault, .int mdeep, .int mcoded, .int mlines, .ref nl, .ref nc, .ref nF, .ref np, .ref ntr, .ref nb, .int mbestCost, .ref nso, .ref nsi, .ref nit, .ref nsh, .ref nsf, .ref nss, .ref nrc, .int (nI jr), .int (nI jd), .int mnumber, .int mwhose, .int msize, .int misParted])), (nrc, .inl (G.2.1, 30, .inl fnrc))] (fun (r : Int32) (u : Nat × Int32 × (Nat → Int32)) => (True) ∧ (u.1 ≤ 30)) (fun u : Nat × Int32 × (Nat → Int32) => [(h0, .inr (12, [.ref nw, .ref nk, .int mhasKept, .ref nt, .int mtaped, .ref nr, .int mrowMany, .int mroundOf, .int mroundFrom, .int mouts, .ref nm, .int mfromHour, .int mtoHour, .ref ns, .int mfrom, .int mto, .int msort, .int misFault, .int mdeep, .int mcoded, .int mlines, .ref nl, .ref nc, .ref nF, .ref np, .ref ntr, .ref nb, .int mbestCost, .ref nso, .ref nsi, .ref nit, .ref nsh, .ref nsf, .ref nss, .ref nrc, .int (nI u.1), .int (nI jd), .int mnumber, .int mwhose, .int msize, .int u.2.1])), (nrc, .inl (G.2.1, 30, .inl u.2.2))]) := by
  refine MI.start (by decide +kernel) (Nat.le_of_ble_eq_true rfl) ?_
  intro p e s m below meth c A ls hC hK hP hD hS hA hl
  have hl : lv_has ls 5 [(0, .ref h0), (1, .int 2), (2, .int 0), (3, .int xx)] := hl
  obtain ⟨hx, hb, hr, hml, hB, hown, hlocks, hnm⟩ := id hC
  refine lv_iload_n hx hb dX12_bodyFrom_0 rfl (lv_at hl 1 rfl) ?_
  refine lv_istore (lv' := [(4, .int 2), (0, .ref h0), (1, .int 2), (2, .int 0), (3, .int xx)]) hx hb dX12_bodyFrom_1 hl (by decide) rfl (fun ls hl => ?_)
  refine lv_iload hx hb dX12_bodyFrom_3 (lv_at hl 0 rfl) ?_
  refine lv_iload_n hx hb dX12_bodyFrom_5 rfl (lv_at hl 3 rfl) ?_
  refine pS hC hK hl (m_hasOwn20 l G) si_X12_360 rfl rfl (Nat.le_of_ble_eq_true rfl) ⟨Nat.le_of_ble_eq_true rfl, Nat.le_of_ble_eq_true rfl⟩ ⟨by first | exact Nat.le_of_ble_eq_true rfl | exact Nat.zero_le _, by first | exact Nat.le_of_ble_eq_true rfl | exact Nat.zero_le _⟩ dX12_bodyFrom_6 (fun r5773 hr5773 => ?_)
  obtain rfl := hr5773
  refine lv_if_ne (tgt := 22) hx hb dX12_bodyFrom_9 (by decide) (fun c9 => absurd (by decide) c9) (fun _ => ?_)
  refine lv_iload hx hb dX12_bodyFrom_12 (lv_at hl 0 rfl) ?_
  refine pS hC hK hl (m_above2 l G) si_X12_348 rfl rfl (Nat.le_of_ble_eq_true rfl) ⟨Nat.le_of_ble_eq_true rfl, Nat.le_of_ble_eq_true rfl⟩ ⟨by first | exact Nat.le_of_ble_eq_true rfl | exact Nat.zero_le _, by first | exact Nat.le_of_ble_eq_true rfl | exact Nat.zero_le _⟩ dX12_bodyFrom_14 (fun r5775 hr5775 => ?_)
  obtain rfl := hr5775
  refine lv_istore (lv' := [(4, .int 0), (0, .ref h0), (1, .int 2), (2, .int 0), (3, .int xx)]) hx hb dX12_bodyFrom_17 hl (by decide) rfl (fun ls hl => ?_)
  refine lv_goto (tgt := 3) hx hb dX12_bodyFrom_19 (by decide) ?_
  refine lv_iload hx hb dX12_bodyFrom_3 (lv_at hl 0 rfl) ?_
  refine lv_iload_n hx hb dX12_bodyFrom_5 rfl (lv_at hl 3 rfl) ?_
  refine pS hC hK hl (m_hasOwn00 l G) si_X12_360 rfl rfl (Nat.le_of_ble_eq_true rfl) ⟨Nat.le_of_ble_eq_true rfl, Nat.le_of_ble_eq_true rfl⟩ ⟨by first | exact Nat.le_of_ble_eq_true rfl | exact Nat.zero_le _, by first | exact Nat.le_of_ble_eq_true rfl | exact Nat.zero_le _⟩ dX12_bodyFrom_6 (fun r5777 hr5777 => ?_)
  obtain rfl := hr5777
  refine lv_if_ne (tgt := 22) hx hb dX12_bodyFrom_9 (by decide) (fun _ => ?_) (fun c9 => absurd c9 (by decide))
  refine lv_aload_n hx hb dX12_bodyFrom_22 rfl (lv_at hl 1 rfl) ?_
  refine lv_iload hx hb dX12_bodyFrom_23 (lv_at hl 0 rfl) ?_
  refine lv_iload_n hx hb dX12_bodyFrom_25 rfl (lv_at hl 3 rfl) ?_
  refine lv_iload_n hx hb dX12_bodyFrom_26 rfl (lv_at hl 4 rfl) ?_
  refine iV (wr := []) hC hK hl hP hD hS hA (m_body00 l G h0 xx nw nk mhasKept nt mtaped nr mrowMany mroundOf mroundFrom mouts nm mfromHour mtoHour ns mfrom mto msort misFault mdeep mcoded mlines nl nc nF np ntr nb mbestCost nso nsi nit nsh nsf nss nrc jr jd mnumber mwhose msize misParted fnrc (by omega) (by omega)) si_X12_363 [0, 1] [] rfl rfl (by decide) rfl (by decide) (by decide) rfl rfl rfl rfl rfl (Nat.le_of_ble_eq_true rfl) ⟨Nat.le_of_ble_eq_true rfl, Nat.le_of_ble_eq_true rfl⟩ ⟨Nat.le_of_ble_eq_true rfl, Nat.le_of_ble_eq_true rfl⟩ dX12_bodyFrom_27 (fun r5779 u5780 H locs hr5779 hP hD hS => ?_)
  obtain ⟨jr15781, ip15782, gtrc5783⟩ := u5780
  try dsimp only at hr5779
  have hP : va_P G.1 vwCl [(h0, .inr (12, [.ref nw, .ref nk, .int mhasKept, .ref nt, .int mtaped, .ref nr, .int mrowMany, .int mroundOf, .int mroundFrom, .int mouts, .ref nm, .int mfromHour, .int mtoHour, .ref ns, .int mfrom, .int mto, .int msort, .int misFault, .int mdeep, .int mcoded, .int mlines, .ref nl, .ref nc, .ref nF, .ref np, .ref ntr, .ref nb, .int mbestCost, .ref nso, .ref nsi, .ref nit, .ref nsh, .ref nsf, .ref nss, .ref nrc, .int (nI jr15781), .int (nI jd), .int mnumber, .int mwhose, .int msize, .int ip15782])), (nrc, .inl (G.2.1, 30, .inl gtrc5783))] H := hP
  have hD : va_D A [(h0, .inr (12, [.ref nw, .ref nk, .int mhasKept, .ref nt, .int mtaped, .ref nr, .int mrowMany, .int mroundOf, .int mroundFrom, .int mouts, .ref nm, .int mfromHour, .int mtoHour, .ref ns, .int mfrom, .int mto, .int msort, .int misFault, .int mdeep, .int mcoded, .int mlines, .ref nl, .ref nc, .ref nF, .ref np, .ref ntr, .ref nb, .int mbestCost, .ref nso, .ref nsi, .ref nit, .ref nsh, .ref nsf, .ref nss, .ref nrc, .int (nI jr15781), .int (nI jd), .int mnumber, .int mwhose, .int msize, .int ip15782])), (nrc, .inl (G.2.1, 30, .inl gtrc5783))] := hD
  obtain ⟨hr5779, w5784⟩ := hr5779
  exact RI (v := r5779) hC hP hD hS [0, 1] (jr15781, ip15782, gtrc5783) rfl rfl (by decide) (⟨trivial, by omega⟩) rfl dX12_bodyFrom_30
set_option maxHeartbeats 4000000 in
set_option maxRecDepth 100000 in
theorem m_from30 (l : Launch) (G : GG) (h0 : Nat) (xx : Int32) (nw : Nat) (nk : Nat) (mhasKept : Int32) (nt : Nat) (mtaped : Int32) (nr : Nat) (mrowMany : Int32) (mroundOf : Int32) (mroundFrom : Int32) (mouts : Int32) (nm : Nat) (mfromHour : Int32) (mtoHour : Int32) (ns : Nat) (mfrom : Int32) (mto : Int32) (msort : Int32) (misFault : Int32) (mdeep : Int32) (mcoded : Int32) (mlines : Int32) (nl : Nat) (nc : Nat) (nF : Nat) (np : Nat) (ntr : Nat) (nb : Nat) (mbestCost : Int32) (nso : Nat) (nsi : Nat) (nit : Nat) (nsh : Nat) (nsf : Nat) (nss : Nat) (nrc : Nat) (jr : Nat) (jd : Nat) (mnumber : Int32) (mwhose : Int32) (msize : Int32) (misParted : Int32) (fnrc : Nat → Int32) (hjr : jr ≤ 30) (hjd : jd < 7) : MI l G yX12_bodyFrom cX12_bodyFrom 5 (some .int) 12 0 0 [.ref h0, .int 3, .int 0, .int xx] [(h0, .inr (12, [.ref nw, .ref nk, .int mhasKept, .ref nt, .int mtaped, .ref nr, .int mrowMany, .int mroundOf, .int mroundFrom, .int mouts, .ref nm, .int mfromHour, .int mtoHour, .ref ns, .int mfrom, .int mto, .int msort, .int misFault, .int mdeep, .int mcoded, .int mlines, .ref nl, .ref nc, .ref nF, .ref np, .ref ntr, .ref nb, .int mbestCost, .ref nso, .ref nsi, .ref nit, .ref nsh, .ref nsf, .ref nss, .ref nrc, .int (nI jr), .int (nI jd), .int mnumber, .int mwhose, .int msize, .int misParted])), (nrc, .inl (G.2.1, 30, .inl fnrc))] (fun (r : Int32) (u : Nat × Int32 × (Nat → Int32)) => (True) ∧ (u.1 ≤ 30)) (fun u : Nat × Int32 × (Nat → Int32) => [(h0, .inr (12, [.ref nw, .ref nk, .int mhasKept, .ref nt, .int mtaped, .ref nr, .int mrowMany, .int mroundOf, .int mroundFrom, .int mouts, .ref nm, .int mfromHour, .int mtoHour, .ref ns, .int mfrom, .int mto, .int msort, .int misFault, .int mdeep, .int mcoded, .int mlines, .ref nl, .ref nc, .ref nF, .ref np, .ref ntr, .ref nb, .int mbestCost, .ref nso, .ref nsi, .ref nit, .ref nsh, .ref nsf, .ref nss, .ref nrc, .int (nI u.1), .int (nI jd), .int mnumber, .int mwhose, .int msize, .int u.2.1])), (nrc, .inl (G.2.1, 30, .inl u.2.2))]) := by
  refine MI.start (by decide +kernel) (Nat.le_of_ble_eq_true rfl) ?_
  intro p e s m below meth c A ls hC hK hP hD hS hA hl
  have hl : lv_has ls 5 [(0, .ref h0), (1, .int 3), (2, .int 0), (3, .int xx)] := hl
  obtain ⟨hx, hb, hr, hml, hB, hown, hlocks, hnm⟩ := id hC
  refine lv_iload_n hx hb dX12_bodyFrom_0 rfl (lv_at hl 1 rfl) ?_
  refine lv_istore (lv' := [(4, .int 3), (0, .ref h0), (1, .int 3), (2, .int 0), (3, .int xx)]) hx hb dX12_bodyFrom_1 hl (by decide) rfl (fun ls hl => ?_)
  refine lv_iload hx hb dX12_bodyFrom_3 (lv_at hl 0 rfl) ?_
  refine lv_iload_n hx hb dX12_bodyFrom_5 rfl (lv_at hl 3 rfl) ?_
  refine pS hC hK hl (m_hasOwn30 l G) si_X12_360 rfl rfl (Nat.le_of_ble_eq_true rfl) ⟨Nat.le_of_ble_eq_true rfl, Nat.le_of_ble_eq_true rfl⟩ ⟨by first | exact Nat.le_of_ble_eq_true rfl | exact Nat.zero_le _, by first | exact Nat.le_of_ble_eq_true rfl | exact Nat.zero_le _⟩ dX12_bodyFrom_6 (fun r5785 hr5785 => ?_)
  obtain rfl := hr5785
  refine lv_if_ne (tgt := 22) hx hb dX12_bodyFrom_9 (by decide) (fun c9 => absurd (by decide) c9) (fun _ => ?_)
  refine lv_iload hx hb dX12_bodyFrom_12 (lv_at hl 0 rfl) ?_
  refine pS hC hK hl (m_above3 l G) si_X12_348 rfl rfl (Nat.le_of_ble_eq_true rfl) ⟨Nat.le_of_ble_eq_true rfl, Nat.le_of_ble_eq_true rfl⟩ ⟨by first | exact Nat.le_of_ble_eq_true rfl | exact Nat.zero_le _, by first | exact Nat.le_of_ble_eq_true rfl | exact Nat.zero_le _⟩ dX12_bodyFrom_14 (fun r5787 hr5787 => ?_)
  obtain rfl := hr5787
  refine lv_istore (lv' := [(4, .int 1), (0, .ref h0), (1, .int 3), (2, .int 0), (3, .int xx)]) hx hb dX12_bodyFrom_17 hl (by decide) rfl (fun ls hl => ?_)
  refine lv_goto (tgt := 3) hx hb dX12_bodyFrom_19 (by decide) ?_
  refine lv_iload hx hb dX12_bodyFrom_3 (lv_at hl 0 rfl) ?_
  refine lv_iload_n hx hb dX12_bodyFrom_5 rfl (lv_at hl 3 rfl) ?_
  refine pS hC hK hl (m_hasOwn10 l G) si_X12_360 rfl rfl (Nat.le_of_ble_eq_true rfl) ⟨Nat.le_of_ble_eq_true rfl, Nat.le_of_ble_eq_true rfl⟩ ⟨by first | exact Nat.le_of_ble_eq_true rfl | exact Nat.zero_le _, by first | exact Nat.le_of_ble_eq_true rfl | exact Nat.zero_le _⟩ dX12_bodyFrom_6 (fun r5789 hr5789 => ?_)
  obtain rfl := hr5789
  refine lv_if_ne (tgt := 22) hx hb dX12_bodyFrom_9 (by decide) (fun c9 => absurd (by decide) c9) (fun _ => ?_)
  refine lv_iload hx hb dX12_bodyFrom_12 (lv_at hl 0 rfl) ?_
  refine pS hC hK hl (m_above1 l G) si_X12_348 rfl rfl (Nat.le_of_ble_eq_true rfl) ⟨Nat.le_of_ble_eq_true rfl, Nat.le_of_ble_eq_true rfl⟩ ⟨by first | exact Nat.le_of_ble_eq_true rfl | exact Nat.zero_le _, by first | exact Nat.le_of_ble_eq_true rfl | exact Nat.zero_le _⟩ dX12_bodyFrom_14 (fun r5791 hr5791 => ?_)
  obtain rfl := hr5791
  refine lv_istore (lv' := [(4, .int 0), (0, .ref h0), (1, .int 3), (2, .int 0), (3, .int xx)]) hx hb dX12_bodyFrom_17 hl (by decide) rfl (fun ls hl => ?_)
  refine lv_goto (tgt := 3) hx hb dX12_bodyFrom_19 (by decide) ?_
  refine lv_iload hx hb dX12_bodyFrom_3 (lv_at hl 0 rfl) ?_
  refine lv_iload_n hx hb dX12_bodyFrom_5 rfl (lv_at hl 3 rfl) ?_
  refine pS hC hK hl (m_hasOwn00 l G) si_X12_360 rfl rfl (Nat.le_of_ble_eq_true rfl) ⟨Nat.le_of_ble_eq_true rfl, Nat.le_of_ble_eq_true rfl⟩ ⟨by first | exact Nat.le_of_ble_eq_true rfl | exact Nat.zero_le _, by first | exact Nat.le_of_ble_eq_true rfl | exact Nat.zero_le _⟩ dX12_bodyFrom_6 (fun r5793 hr5793 => ?_)
  obtain rfl := hr5793
  refine lv_if_ne (tgt := 22) hx hb dX12_bodyFrom_9 (by decide) (fun _ => ?_) (fun c9 => absurd c9 (by decide))
  refine lv_aload_n hx hb dX12_bodyFrom_22 rfl (lv_at hl 1 rfl) ?_
  refine lv_iload hx hb dX12_bodyFrom_23 (lv_at hl 0 rfl) ?_
  refine lv_iload_n hx hb dX12_bodyFrom_25 rfl (lv_at hl 3 rfl) ?_
  refine lv_iload_n hx hb dX12_bodyFrom_26 rfl (lv_at hl 4 rfl) ?_
  refine iV (wr := []) hC hK hl hP hD hS hA (m_body00 l G h0 xx nw nk mhasKept nt mtaped nr mrowMany mroundOf mroundFrom mouts nm mfromHour mtoHour ns mfrom mto msort misFault mdeep mcoded mlines nl nc nF np ntr nb mbestCost nso nsi nit nsh nsf nss nrc jr jd mnumber mwhose msize misParted fnrc (by omega) (by omega)) si_X12_363 [0, 1] [] rfl rfl (by decide) rfl (by decide) (by decide) rfl rfl rfl rfl rfl (Nat.le_of_ble_eq_true rfl) ⟨Nat.le_of_ble_eq_true rfl, Nat.le_of_ble_eq_true rfl⟩ ⟨Nat.le_of_ble_eq_true rfl, Nat.le_of_ble_eq_true rfl⟩ dX12_bodyFrom_27 (fun r5795 u5796 H locs hr5795 hP hD hS => ?_)
  obtain ⟨jr15797, ip15798, gtrc5799⟩ := u5796
  try dsimp only at hr5795
  have hP : va_P G.1 vwCl [(h0, .inr (12, [.ref nw, .ref nk, .int mhasKept, .ref nt, .int mtaped, .ref nr, .int mrowMany, .int mroundOf, .int mroundFrom, .int mouts, .ref nm, .int mfromHour, .int mtoHour, .ref ns, .int mfrom, .int mto, .int msort, .int misFault, .int mdeep, .int mcoded, .int mlines, .ref nl, .ref nc, .ref nF, .ref np, .ref ntr, .ref nb, .int mbestCost, .ref nso, .ref nsi, .ref nit, .ref nsh, .ref nsf, .ref nss, .ref nrc, .int (nI jr15797), .int (nI jd), .int mnumber, .int mwhose, .int msize, .int ip15798])), (nrc, .inl (G.2.1, 30, .inl gtrc5799))] H := hP
  have hD : va_D A [(h0, .inr (12, [.ref nw, .ref nk, .int mhasKept, .ref nt, .int mtaped, .ref nr, .int mrowMany, .int mroundOf, .int mroundFrom, .int mouts, .ref nm, .int mfromHour, .int mtoHour, .ref ns, .int mfrom, .int mto, .int msort, .int misFault, .int mdeep, .int mcoded, .int mlines, .ref nl, .ref nc, .ref nF, .ref np, .ref ntr, .ref nb, .int mbestCost, .ref nso, .ref nsi, .ref nit, .ref nsh, .ref nsf, .ref nss, .ref nrc, .int (nI jr15797), .int (nI jd), .int mnumber, .int mwhose, .int msize, .int ip15798])), (nrc, .inl (G.2.1, 30, .inl gtrc5799))] := hD
  obtain ⟨hr5795, w5800⟩ := hr5795
  exact RI (v := r5795) hC hP hD hS [0, 1] (jr15797, ip15798, gtrc5799) rfl rfl (by decide) (⟨trivial, by omega⟩) rfl dX12_bodyFrom_30
set_option maxHeartbeats 4000000 in
set_option maxRecDepth 100000 in
theorem m_from60 (l : Launch) (G : GG) (h0 : Nat) (xx : Int32) (nw : Nat) (nk : Nat) (mhasKept : Int32) (nt : Nat) (mtaped : Int32) (nr : Nat) (mrowMany : Int32) (mroundOf : Int32) (mroundFrom : Int32) (mouts : Int32) (nm : Nat) (mfromHour : Int32) (mtoHour : Int32) (ns : Nat) (mfrom : Int32) (mto : Int32) (msort : Int32) (misFault : Int32) (mdeep : Int32) (mcoded : Int32) (mlines : Int32) (nl : Nat) (nc : Nat) (nF : Nat) (np : Nat) (ntr : Nat) (nb : Nat) (mbestCost : Int32) (nso : Nat) (nsi : Nat) (nit : Nat) (nsh : Nat) (nsf : Nat) (nss : Nat) (nrc : Nat) (jr : Nat) (jd : Nat) (mnumber : Int32) (mwhose : Int32) (msize : Int32) (misParted : Int32) (fnrc : Nat → Int32) (hjr : jr ≤ 30) (hjd : jd < 7) : MI l G yX12_bodyFrom cX12_bodyFrom 5 (some .int) 12 0 0 [.ref h0, .int 6, .int 0, .int xx] [(h0, .inr (12, [.ref nw, .ref nk, .int mhasKept, .ref nt, .int mtaped, .ref nr, .int mrowMany, .int mroundOf, .int mroundFrom, .int mouts, .ref nm, .int mfromHour, .int mtoHour, .ref ns, .int mfrom, .int mto, .int msort, .int misFault, .int mdeep, .int mcoded, .int mlines, .ref nl, .ref nc, .ref nF, .ref np, .ref ntr, .ref nb, .int mbestCost, .ref nso, .ref nsi, .ref nit, .ref nsh, .ref nsf, .ref nss, .ref nrc, .int (nI jr), .int (nI jd), .int mnumber, .int mwhose, .int msize, .int misParted])), (nrc, .inl (G.2.1, 30, .inl fnrc))] (fun (r : Int32) (u : Nat × Int32 × (Nat → Int32)) => (True) ∧ (u.1 ≤ 30)) (fun u : Nat × Int32 × (Nat → Int32) => [(h0, .inr (12, [.ref nw, .ref nk, .int mhasKept, .ref nt, .int mtaped, .ref nr, .int mrowMany, .int mroundOf, .int mroundFrom, .int mouts, .ref nm, .int mfromHour, .int mtoHour, .ref ns, .int mfrom, .int mto, .int msort, .int misFault, .int mdeep, .int mcoded, .int mlines, .ref nl, .ref nc, .ref nF, .ref np, .ref ntr, .ref nb, .int mbestCost, .ref nso, .ref nsi, .ref nit, .ref nsh, .ref nsf, .ref nss, .ref nrc, .int (nI u.1), .int (nI jd), .int mnumber, .int mwhose, .int msize, .int u.2.1])), (nrc, .inl (G.2.1, 30, .inl u.2.2))]) := by
  refine MI.start (by decide +kernel) (Nat.le_of_ble_eq_true rfl) ?_
  intro p e s m below meth c A ls hC hK hP hD hS hA hl
  have hl : lv_has ls 5 [(0, .ref h0), (1, .int 6), (2, .int 0), (3, .int xx)] := hl
  obtain ⟨hx, hb, hr, hml, hB, hown, hlocks, hnm⟩ := id hC
  refine lv_iload_n hx hb dX12_bodyFrom_0 rfl (lv_at hl 1 rfl) ?_
  refine lv_istore (lv' := [(4, .int 6), (0, .ref h0), (1, .int 6), (2, .int 0), (3, .int xx)]) hx hb dX12_bodyFrom_1 hl (by decide) rfl (fun ls hl => ?_)
  refine lv_iload hx hb dX12_bodyFrom_3 (lv_at hl 0 rfl) ?_
  refine lv_iload_n hx hb dX12_bodyFrom_5 rfl (lv_at hl 3 rfl) ?_
  refine pS hC hK hl (m_hasOwn60 l G) si_X12_360 rfl rfl (Nat.le_of_ble_eq_true rfl) ⟨Nat.le_of_ble_eq_true rfl, Nat.le_of_ble_eq_true rfl⟩ ⟨by first | exact Nat.le_of_ble_eq_true rfl | exact Nat.zero_le _, by first | exact Nat.le_of_ble_eq_true rfl | exact Nat.zero_le _⟩ dX12_bodyFrom_6 (fun r5801 hr5801 => ?_)
  obtain rfl := hr5801
  refine lv_if_ne (tgt := 22) hx hb dX12_bodyFrom_9 (by decide) (fun c9 => absurd (by decide) c9) (fun _ => ?_)
  refine lv_iload hx hb dX12_bodyFrom_12 (lv_at hl 0 rfl) ?_
  refine pS hC hK hl (m_above6 l G) si_X12_348 rfl rfl (Nat.le_of_ble_eq_true rfl) ⟨Nat.le_of_ble_eq_true rfl, Nat.le_of_ble_eq_true rfl⟩ ⟨by first | exact Nat.le_of_ble_eq_true rfl | exact Nat.zero_le _, by first | exact Nat.le_of_ble_eq_true rfl | exact Nat.zero_le _⟩ dX12_bodyFrom_14 (fun r5803 hr5803 => ?_)
  obtain rfl := hr5803
  refine lv_istore (lv' := [(4, .int 0), (0, .ref h0), (1, .int 6), (2, .int 0), (3, .int xx)]) hx hb dX12_bodyFrom_17 hl (by decide) rfl (fun ls hl => ?_)
  refine lv_goto (tgt := 3) hx hb dX12_bodyFrom_19 (by decide) ?_
  refine lv_iload hx hb dX12_bodyFrom_3 (lv_at hl 0 rfl) ?_
  refine lv_iload_n hx hb dX12_bodyFrom_5 rfl (lv_at hl 3 rfl) ?_
  refine pS hC hK hl (m_hasOwn00 l G) si_X12_360 rfl rfl (Nat.le_of_ble_eq_true rfl) ⟨Nat.le_of_ble_eq_true rfl, Nat.le_of_ble_eq_true rfl⟩ ⟨by first | exact Nat.le_of_ble_eq_true rfl | exact Nat.zero_le _, by first | exact Nat.le_of_ble_eq_true rfl | exact Nat.zero_le _⟩ dX12_bodyFrom_6 (fun r5805 hr5805 => ?_)
  obtain rfl := hr5805
  refine lv_if_ne (tgt := 22) hx hb dX12_bodyFrom_9 (by decide) (fun _ => ?_) (fun c9 => absurd c9 (by decide))
  refine lv_aload_n hx hb dX12_bodyFrom_22 rfl (lv_at hl 1 rfl) ?_
  refine lv_iload hx hb dX12_bodyFrom_23 (lv_at hl 0 rfl) ?_
  refine lv_iload_n hx hb dX12_bodyFrom_25 rfl (lv_at hl 3 rfl) ?_
  refine lv_iload_n hx hb dX12_bodyFrom_26 rfl (lv_at hl 4 rfl) ?_
  refine iV (wr := []) hC hK hl hP hD hS hA (m_body00 l G h0 xx nw nk mhasKept nt mtaped nr mrowMany mroundOf mroundFrom mouts nm mfromHour mtoHour ns mfrom mto msort misFault mdeep mcoded mlines nl nc nF np ntr nb mbestCost nso nsi nit nsh nsf nss nrc jr jd mnumber mwhose msize misParted fnrc (by omega) (by omega)) si_X12_363 [0, 1] [] rfl rfl (by decide) rfl (by decide) (by decide) rfl rfl rfl rfl rfl (Nat.le_of_ble_eq_true rfl) ⟨Nat.le_of_ble_eq_true rfl, Nat.le_of_ble_eq_true rfl⟩ ⟨Nat.le_of_ble_eq_true rfl, Nat.le_of_ble_eq_true rfl⟩ dX12_bodyFrom_27 (fun r5807 u5808 H locs hr5807 hP hD hS => ?_)
  obtain ⟨jr15809, ip15810, gtrc5811⟩ := u5808
  try dsimp only at hr5807
  have hP : va_P G.1 vwCl [(h0, .inr (12, [.ref nw, .ref nk, .int mhasKept, .ref nt, .int mtaped, .ref nr, .int mrowMany, .int mroundOf, .int mroundFrom, .int mouts, .ref nm, .int mfromHour, .int mtoHour, .ref ns, .int mfrom, .int mto, .int msort, .int misFault, .int mdeep, .int mcoded, .int mlines, .ref nl, .ref nc, .ref nF, .ref np, .ref ntr, .ref nb, .int mbestCost, .ref nso, .ref nsi, .ref nit, .ref nsh, .ref nsf, .ref nss, .ref nrc, .int (nI jr15809), .int (nI jd), .int mnumber, .int mwhose, .int msize, .int ip15810])), (nrc, .inl (G.2.1, 30, .inl gtrc5811))] H := hP
  have hD : va_D A [(h0, .inr (12, [.ref nw, .ref nk, .int mhasKept, .ref nt, .int mtaped, .ref nr, .int mrowMany, .int mroundOf, .int mroundFrom, .int mouts, .ref nm, .int mfromHour, .int mtoHour, .ref ns, .int mfrom, .int mto, .int msort, .int misFault, .int mdeep, .int mcoded, .int mlines, .ref nl, .ref nc, .ref nF, .ref np, .ref ntr, .ref nb, .int mbestCost, .ref nso, .ref nsi, .ref nit, .ref nsh, .ref nsf, .ref nss, .ref nrc, .int (nI jr15809), .int (nI jd), .int mnumber, .int mwhose, .int msize, .int ip15810])), (nrc, .inl (G.2.1, 30, .inl gtrc5811))] := hD
  obtain ⟨hr5807, w5812⟩ := hr5807
  exact RI (v := r5807) hC hP hD hS [0, 1] (jr15809, ip15810, gtrc5811) rfl rfl (by decide) (⟨trivial, by omega⟩) rfl dX12_bodyFrom_30
set_option maxHeartbeats 4000000 in
set_option maxRecDepth 100000 in
theorem m_dealt0 (l : Launch) (G : GG) (h0 : Nat) (xx : Int32) (nw : Nat) (nk : Nat) (mhasKept : Int32) (nt : Nat) (mtaped : Int32) (nr : Nat) (mrowMany : Int32) (mroundOf : Int32) (mroundFrom : Int32) (mouts : Int32) (nm : Nat) (mfromHour : Int32) (mtoHour : Int32) (ns : Nat) (mfrom : Int32) (mto : Int32) (msort : Int32) (misFault : Int32) (mdeep : Int32) (mcoded : Int32) (mlines : Int32) (nl : Nat) (nc : Nat) (nF : Nat) (np : Nat) (ntr : Nat) (nb : Nat) (mbestCost : Int32) (nso : Nat) (nsi : Nat) (nit : Nat) (nsh : Nat) (nsf : Nat) (nss : Nat) (nrc : Nat) (jr : Nat) (jd : Nat) (mnumber : Int32) (mwhose : Int32) (msize : Int32) (misParted : Int32) (fnrc : Nat → Int32) (hjr : jr ≤ 30) (hjd : jd < 7) : MI l G yX12_dealt cX12_dealt 3 (some .int) 14 0 0 [.ref h0, .int 0, .int xx] [(h0, .inr (12, [.ref nw, .ref nk, .int mhasKept, .ref nt, .int mtaped, .ref nr, .int mrowMany, .int mroundOf, .int mroundFrom, .int mouts, .ref nm, .int mfromHour, .int mtoHour, .ref ns, .int mfrom, .int mto, .int msort, .int misFault, .int mdeep, .int mcoded, .int mlines, .ref nl, .ref nc, .ref nF, .ref np, .ref ntr, .ref nb, .int mbestCost, .ref nso, .ref nsi, .ref nit, .ref nsh, .ref nsf, .ref nss, .ref nrc, .int (nI jr), .int (nI jd), .int mnumber, .int mwhose, .int msize, .int misParted])), (nrc, .inl (G.2.1, 30, .inl fnrc))] (fun (r : Int32) (u : Nat × Int32 × (Nat → Int32)) => (True) ∧ (u.1 ≤ 30)) (fun u : Nat × Int32 × (Nat → Int32) => [(h0, .inr (12, [.ref nw, .ref nk, .int mhasKept, .ref nt, .int mtaped, .ref nr, .int mrowMany, .int mroundOf, .int mroundFrom, .int mouts, .ref nm, .int mfromHour, .int mtoHour, .ref ns, .int mfrom, .int mto, .int msort, .int misFault, .int mdeep, .int mcoded, .int mlines, .ref nl, .ref nc, .ref nF, .ref np, .ref ntr, .ref nb, .int mbestCost, .ref nso, .ref nsi, .ref nit, .ref nsh, .ref nsf, .ref nss, .ref nrc, .int (nI u.1), .int (nI jd), .int mnumber, .int mwhose, .int msize, .int u.2.1])), (nrc, .inl (G.2.1, 30, .inl u.2.2))]) := by
  refine MI.start (by decide +kernel) (Nat.le_of_ble_eq_true rfl) ?_
  intro p e s m below meth c A ls hC hK hP hD hS hA hl
  have hl : lv_has ls 3 [(0, .ref h0), (1, .int 0), (2, .int xx)] := hl
  obtain ⟨hx, hb, hr, hml, hB, hown, hlocks, hnm⟩ := id hC
  refine lv_aload_n hx hb dX12_dealt_0 rfl (lv_at hl 0 rfl) ?_
  refine lv_aload_n hx hb dX12_dealt_1 rfl (lv_at hl 0 rfl) ?_
  refine gf_X12_354 hC rfl hK hP 0 rfl rfl dX12_dealt_2 ?_
  refine lv_iload_n hx hb dX12_dealt_5 rfl (lv_at hl 1 rfl) ?_
  refine lv_iload_n hx hb dX12_dealt_6 rfl (lv_at hl 2 rfl) ?_
  rcases (show jd = 0 ∨ jd = 1 ∨ jd = 2 ∨ jd = 3 ∨ jd = 4 ∨ jd = 5 ∨ jd = 6 by omega) with rfl | rfl | rfl | rfl | rfl | rfl | rfl
  · refine iV (wr := []) hC hK hl hP hD hS hA (m_from00 l G h0 xx nw nk mhasKept nt mtaped nr mrowMany mroundOf mroundFrom mouts nm mfromHour mtoHour ns mfrom mto msort misFault mdeep mcoded mlines nl nc nF np ntr nb mbestCost nso nsi nit nsh nsf nss nrc jr 0 mnumber mwhose msize misParted fnrc (by omega) (by omega)) si_X12_357 [0, 1] [] rfl rfl (by decide) rfl (by decide) (by decide) rfl rfl rfl rfl rfl (Nat.le_of_ble_eq_true rfl) ⟨Nat.le_of_ble_eq_true rfl, Nat.le_of_ble_eq_true rfl⟩ ⟨Nat.le_of_ble_eq_true rfl, Nat.le_of_ble_eq_true rfl⟩ dX12_dealt_7 (fun r5813 u5814 H locs hr5813 hP hD hS => ?_)
    obtain ⟨jr15815, ip15816, gtrc5817⟩ := u5814
    try dsimp only at hr5813
    have hP : va_P G.1 vwCl [(h0, .inr (12, [.ref nw, .ref nk, .int mhasKept, .ref nt, .int mtaped, .ref nr, .int mrowMany, .int mroundOf, .int mroundFrom, .int mouts, .ref nm, .int mfromHour, .int mtoHour, .ref ns, .int mfrom, .int mto, .int msort, .int misFault, .int mdeep, .int mcoded, .int mlines, .ref nl, .ref nc, .ref nF, .ref np, .ref ntr, .ref nb, .int mbestCost, .ref nso, .ref nsi, .ref nit, .ref nsh, .ref nsf, .ref nss, .ref nrc, .int (nI jr15815), .int 0, .int mnumber, .int mwhose, .int msize, .int ip15816])), (nrc, .inl (G.2.1, 30, .inl gtrc5817))] H := hP
    have hD : va_D A [(h0, .inr (12, [.ref nw, .ref nk, .int mhasKept, .ref nt, .int mtaped, .ref nr, .int mrowMany, .int mroundOf, .int mroundFrom, .int mouts, .ref nm, .int mfromHour, .int mtoHour, .ref ns, .int mfrom, .int mto, .int msort, .int misFault, .int mdeep, .int mcoded, .int mlines, .ref nl, .ref nc, .ref nF, .ref np, .ref ntr, .ref nb, .int mbestCost, .ref nso, .ref nsi, .ref nit, .ref nsh, .ref nsf, .ref nss, .ref nrc, .int (nI jr15815), .int 0, .int mnumber, .int mwhose, .int msize, .int ip15816])), (nrc, .inl (G.2.1, 30, .inl gtrc5817))] := hD
    obtain ⟨hr5813, w5818⟩ := hr5813
    exact RI (v := r5813) hC hP hD hS [0, 1] (jr15815, ip15816, gtrc5817) rfl rfl (by decide) (⟨trivial, by omega⟩) rfl dX12_dealt_10
  · refine iV (wr := []) hC hK hl hP hD hS hA (m_from10 l G h0 xx nw nk mhasKept nt mtaped nr mrowMany mroundOf mroundFrom mouts nm mfromHour mtoHour ns mfrom mto msort misFault mdeep mcoded mlines nl nc nF np ntr nb mbestCost nso nsi nit nsh nsf nss nrc jr 1 mnumber mwhose msize misParted fnrc (by omega) (by omega)) si_X12_357 [0, 1] [] rfl rfl (by decide) rfl (by decide) (by decide) rfl rfl rfl rfl rfl (Nat.le_of_ble_eq_true rfl) ⟨Nat.le_of_ble_eq_true rfl, Nat.le_of_ble_eq_true rfl⟩ ⟨Nat.le_of_ble_eq_true rfl, Nat.le_of_ble_eq_true rfl⟩ dX12_dealt_7 (fun r5819 u5820 H locs hr5819 hP hD hS => ?_)
    obtain ⟨jr15821, ip15822, gtrc5823⟩ := u5820
    try dsimp only at hr5819
    have hP : va_P G.1 vwCl [(h0, .inr (12, [.ref nw, .ref nk, .int mhasKept, .ref nt, .int mtaped, .ref nr, .int mrowMany, .int mroundOf, .int mroundFrom, .int mouts, .ref nm, .int mfromHour, .int mtoHour, .ref ns, .int mfrom, .int mto, .int msort, .int misFault, .int mdeep, .int mcoded, .int mlines, .ref nl, .ref nc, .ref nF, .ref np, .ref ntr, .ref nb, .int mbestCost, .ref nso, .ref nsi, .ref nit, .ref nsh, .ref nsf, .ref nss, .ref nrc, .int (nI jr15821), .int 1, .int mnumber, .int mwhose, .int msize, .int ip15822])), (nrc, .inl (G.2.1, 30, .inl gtrc5823))] H := hP
    have hD : va_D A [(h0, .inr (12, [.ref nw, .ref nk, .int mhasKept, .ref nt, .int mtaped, .ref nr, .int mrowMany, .int mroundOf, .int mroundFrom, .int mouts, .ref nm, .int mfromHour, .int mtoHour, .ref ns, .int mfrom, .int mto, .int msort, .int misFault, .int mdeep, .int mcoded, .int mlines, .ref nl, .ref nc, .ref nF, .ref np, .ref ntr, .ref nb, .int mbestCost, .ref nso, .ref nsi, .ref nit, .ref nsh, .ref nsf, .ref nss, .ref nrc, .int (nI jr15821), .int 1, .int mnumber, .int mwhose, .int msize, .int ip15822])), (nrc, .inl (G.2.1, 30, .inl gtrc5823))] := hD
    obtain ⟨hr5819, w5824⟩ := hr5819
    exact RI (v := r5819) hC hP hD hS [0, 1] (jr15821, ip15822, gtrc5823) rfl rfl (by decide) (⟨trivial, by omega⟩) rfl dX12_dealt_10
  · refine iV (wr := []) hC hK hl hP hD hS hA (m_from20 l G h0 xx nw nk mhasKept nt mtaped nr mrowMany mroundOf mroundFrom mouts nm mfromHour mtoHour ns mfrom mto msort misFault mdeep mcoded mlines nl nc nF np ntr nb mbestCost nso nsi nit nsh nsf nss nrc jr 2 mnumber mwhose msize misParted fnrc (by omega) (by omega)) si_X12_357 [0, 1] [] rfl rfl (by decide) rfl (by decide) (by decide) rfl rfl rfl rfl rfl (Nat.le_of_ble_eq_true rfl) ⟨Nat.le_of_ble_eq_true rfl, Nat.le_of_ble_eq_true rfl⟩ ⟨Nat.le_of_ble_eq_true rfl, Nat.le_of_ble_eq_true rfl⟩ dX12_dealt_7 (fun r5825 u5826 H locs hr5825 hP hD hS => ?_)
    obtain ⟨jr15827, ip15828, gtrc5829⟩ := u5826
    try dsimp only at hr5825
    have hP : va_P G.1 vwCl [(h0, .inr (12, [.ref nw, .ref nk, .int mhasKept, .ref nt, .int mtaped, .ref nr, .int mrowMany, .int mroundOf, .int mroundFrom, .int mouts, .ref nm, .int mfromHour, .int mtoHour, .ref ns, .int mfrom, .int mto, .int msort, .int misFault, .int mdeep, .int mcoded, .int mlines, .ref nl, .ref nc, .ref nF, .ref np, .ref ntr, .ref nb, .int mbestCost, .ref nso, .ref nsi, .ref nit, .ref nsh, .ref nsf, .ref nss, .ref nrc, .int (nI jr15827), .int 2, .int mnumber, .int mwhose, .int msize, .int ip15828])), (nrc, .inl (G.2.1, 30, .inl gtrc5829))] H := hP
    have hD : va_D A [(h0, .inr (12, [.ref nw, .ref nk, .int mhasKept, .ref nt, .int mtaped, .ref nr, .int mrowMany, .int mroundOf, .int mroundFrom, .int mouts, .ref nm, .int mfromHour, .int mtoHour, .ref ns, .int mfrom, .int mto, .int msort, .int misFault, .int mdeep, .int mcoded, .int mlines, .ref nl, .ref nc, .ref nF, .ref np, .ref ntr, .ref nb, .int mbestCost, .ref nso, .ref nsi, .ref nit, .ref nsh, .ref nsf, .ref nss, .ref nrc, .int (nI jr15827), .int 2, .int mnumber, .int mwhose, .int msize, .int ip15828])), (nrc, .inl (G.2.1, 30, .inl gtrc5829))] := hD
    obtain ⟨hr5825, w5830⟩ := hr5825
    exact RI (v := r5825) hC hP hD hS [0, 1] (jr15827, ip15828, gtrc5829) rfl rfl (by decide) (⟨trivial, by omega⟩) rfl dX12_dealt_10
  · refine iV (wr := []) hC hK hl hP hD hS hA (m_from30 l G h0 xx nw nk mhasKept nt mtaped nr mrowMany mroundOf mroundFrom mouts nm mfromHour mtoHour ns mfrom mto msort misFault mdeep mcoded mlines nl nc nF np ntr nb mbestCost nso nsi nit nsh nsf nss nrc jr 3 mnumber mwhose msize misParted fnrc (by omega) (by omega)) si_X12_357 [0, 1] [] rfl rfl (by decide) rfl (by decide) (by decide) rfl rfl rfl rfl rfl (Nat.le_of_ble_eq_true rfl) ⟨Nat.le_of_ble_eq_true rfl, Nat.le_of_ble_eq_true rfl⟩ ⟨Nat.le_of_ble_eq_true rfl, Nat.le_of_ble_eq_true rfl⟩ dX12_dealt_7 (fun r5831 u5832 H locs hr5831 hP hD hS => ?_)
    obtain ⟨jr15833, ip15834, gtrc5835⟩ := u5832
    try dsimp only at hr5831
    have hP : va_P G.1 vwCl [(h0, .inr (12, [.ref nw, .ref nk, .int mhasKept, .ref nt, .int mtaped, .ref nr, .int mrowMany, .int mroundOf, .int mroundFrom, .int mouts, .ref nm, .int mfromHour, .int mtoHour, .ref ns, .int mfrom, .int mto, .int msort, .int misFault, .int mdeep, .int mcoded, .int mlines, .ref nl, .ref nc, .ref nF, .ref np, .ref ntr, .ref nb, .int mbestCost, .ref nso, .ref nsi, .ref nit, .ref nsh, .ref nsf, .ref nss, .ref nrc, .int (nI jr15833), .int 3, .int mnumber, .int mwhose, .int msize, .int ip15834])), (nrc, .inl (G.2.1, 30, .inl gtrc5835))] H := hP
    have hD : va_D A [(h0, .inr (12, [.ref nw, .ref nk, .int mhasKept, .ref nt, .int mtaped, .ref nr, .int mrowMany, .int mroundOf, .int mroundFrom, .int mouts, .ref nm, .int mfromHour, .int mtoHour, .ref ns, .int mfrom, .int mto, .int msort, .int misFault, .int mdeep, .int mcoded, .int mlines, .ref nl, .ref nc, .ref nF, .ref np, .ref ntr, .ref nb, .int mbestCost, .ref nso, .ref nsi, .ref nit, .ref nsh, .ref nsf, .ref nss, .ref nrc, .int (nI jr15833), .int 3, .int mnumber, .int mwhose, .int msize, .int ip15834])), (nrc, .inl (G.2.1, 30, .inl gtrc5835))] := hD
    obtain ⟨hr5831, w5836⟩ := hr5831
    exact RI (v := r5831) hC hP hD hS [0, 1] (jr15833, ip15834, gtrc5835) rfl rfl (by decide) (⟨trivial, by omega⟩) rfl dX12_dealt_10
  · refine iV (wr := []) hC hK hl hP hD hS hA (m_from40 l G h0 xx nw nk mhasKept nt mtaped nr mrowMany mroundOf mroundFrom mouts nm mfromHour mtoHour ns mfrom mto msort misFault mdeep mcoded mlines nl nc nF np ntr nb mbestCost nso nsi nit nsh nsf nss nrc jr 4 mnumber mwhose msize misParted fnrc (by omega) (by omega)) si_X12_357 [0, 1] [] rfl rfl (by decide) rfl (by decide) (by decide) rfl rfl rfl rfl rfl (Nat.le_of_ble_eq_true rfl) ⟨Nat.le_of_ble_eq_true rfl, Nat.le_of_ble_eq_true rfl⟩ ⟨Nat.le_of_ble_eq_true rfl, Nat.le_of_ble_eq_true rfl⟩ dX12_dealt_7 (fun r5837 u5838 H locs hr5837 hP hD hS => ?_)
    obtain ⟨jr15839, ip15840, gtrc5841⟩ := u5838
    try dsimp only at hr5837
    have hP : va_P G.1 vwCl [(h0, .inr (12, [.ref nw, .ref nk, .int mhasKept, .ref nt, .int mtaped, .ref nr, .int mrowMany, .int mroundOf, .int mroundFrom, .int mouts, .ref nm, .int mfromHour, .int mtoHour, .ref ns, .int mfrom, .int mto, .int msort, .int misFault, .int mdeep, .int mcoded, .int mlines, .ref nl, .ref nc, .ref nF, .ref np, .ref ntr, .ref nb, .int mbestCost, .ref nso, .ref nsi, .ref nit, .ref nsh, .ref nsf, .ref nss, .ref nrc, .int (nI jr15839), .int 4, .int mnumber, .int mwhose, .int msize, .int ip15840])), (nrc, .inl (G.2.1, 30, .inl gtrc5841))] H := hP
    have hD : va_D A [(h0, .inr (12, [.ref nw, .ref nk, .int mhasKept, .ref nt, .int mtaped, .ref nr, .int mrowMany, .int mroundOf, .int mroundFrom, .int mouts, .ref nm, .int mfromHour, .int mtoHour, .ref ns, .int mfrom, .int mto, .int msort, .int misFault, .int mdeep, .int mcoded, .int mlines, .ref nl, .ref nc, .ref nF, .ref np, .ref ntr, .ref nb, .int mbestCost, .ref nso, .ref nsi, .ref nit, .ref nsh, .ref nsf, .ref nss, .ref nrc, .int (nI jr15839), .int 4, .int mnumber, .int mwhose, .int msize, .int ip15840])), (nrc, .inl (G.2.1, 30, .inl gtrc5841))] := hD
    obtain ⟨hr5837, w5842⟩ := hr5837
    exact RI (v := r5837) hC hP hD hS [0, 1] (jr15839, ip15840, gtrc5841) rfl rfl (by decide) (⟨trivial, by omega⟩) rfl dX12_dealt_10
  · refine iV (wr := []) hC hK hl hP hD hS hA (m_from50 l G h0 xx nw nk mhasKept nt mtaped nr mrowMany mroundOf mroundFrom mouts nm mfromHour mtoHour ns mfrom mto msort misFault mdeep mcoded mlines nl nc nF np ntr nb mbestCost nso nsi nit nsh nsf nss nrc jr 5 mnumber mwhose msize misParted fnrc (by omega) (by omega)) si_X12_357 [0, 1] [] rfl rfl (by decide) rfl (by decide) (by decide) rfl rfl rfl rfl rfl (Nat.le_of_ble_eq_true rfl) ⟨Nat.le_of_ble_eq_true rfl, Nat.le_of_ble_eq_true rfl⟩ ⟨Nat.le_of_ble_eq_true rfl, Nat.le_of_ble_eq_true rfl⟩ dX12_dealt_7 (fun r5843 u5844 H locs hr5843 hP hD hS => ?_)
    obtain ⟨jr15845, ip15846, gtrc5847⟩ := u5844
    try dsimp only at hr5843
    have hP : va_P G.1 vwCl [(h0, .inr (12, [.ref nw, .ref nk, .int mhasKept, .ref nt, .int mtaped, .ref nr, .int mrowMany, .int mroundOf, .int mroundFrom, .int mouts, .ref nm, .int mfromHour, .int mtoHour, .ref ns, .int mfrom, .int mto, .int msort, .int misFault, .int mdeep, .int mcoded, .int mlines, .ref nl, .ref nc, .ref nF, .ref np, .ref ntr, .ref nb, .int mbestCost, .ref nso, .ref nsi, .ref nit, .ref nsh, .ref nsf, .ref nss, .ref nrc, .int (nI jr15845), .int 5, .int mnumber, .int mwhose, .int msize, .int ip15846])), (nrc, .inl (G.2.1, 30, .inl gtrc5847))] H := hP
    have hD : va_D A [(h0, .inr (12, [.ref nw, .ref nk, .int mhasKept, .ref nt, .int mtaped, .ref nr, .int mrowMany, .int mroundOf, .int mroundFrom, .int mouts, .ref nm, .int mfromHour, .int mtoHour, .ref ns, .int mfrom, .int mto, .int msort, .int misFault, .int mdeep, .int mcoded, .int mlines, .ref nl, .ref nc, .ref nF, .ref np, .ref ntr, .ref nb, .int mbestCost, .ref nso, .ref nsi, .ref nit, .ref nsh, .ref nsf, .ref nss, .ref nrc, .int (nI jr15845), .int 5, .int mnumber, .int mwhose, .int msize, .int ip15846])), (nrc, .inl (G.2.1, 30, .inl gtrc5847))] := hD
    obtain ⟨hr5843, w5848⟩ := hr5843
    exact RI (v := r5843) hC hP hD hS [0, 1] (jr15845, ip15846, gtrc5847) rfl rfl (by decide) (⟨trivial, by omega⟩) rfl dX12_dealt_10
  · refine iV (wr := []) hC hK hl hP hD hS hA (m_from60 l G h0 xx nw nk mhasKept nt mtaped nr mrowMany mroundOf mroundFrom mouts nm mfromHour mtoHour ns mfrom mto msort misFault mdeep mcoded mlines nl nc nF np ntr nb mbestCost nso nsi nit nsh nsf nss nrc jr 6 mnumber mwhose msize misParted fnrc (by omega) (by omega)) si_X12_357 [0, 1] [] rfl rfl (by decide) rfl (by decide) (by decide) rfl rfl rfl rfl rfl (Nat.le_of_ble_eq_true rfl) ⟨Nat.le_of_ble_eq_true rfl, Nat.le_of_ble_eq_true rfl⟩ ⟨Nat.le_of_ble_eq_true rfl, Nat.le_of_ble_eq_true rfl⟩ dX12_dealt_7 (fun r5849 u5850 H locs hr5849 hP hD hS => ?_)
    obtain ⟨jr15851, ip15852, gtrc5853⟩ := u5850
    try dsimp only at hr5849
    have hP : va_P G.1 vwCl [(h0, .inr (12, [.ref nw, .ref nk, .int mhasKept, .ref nt, .int mtaped, .ref nr, .int mrowMany, .int mroundOf, .int mroundFrom, .int mouts, .ref nm, .int mfromHour, .int mtoHour, .ref ns, .int mfrom, .int mto, .int msort, .int misFault, .int mdeep, .int mcoded, .int mlines, .ref nl, .ref nc, .ref nF, .ref np, .ref ntr, .ref nb, .int mbestCost, .ref nso, .ref nsi, .ref nit, .ref nsh, .ref nsf, .ref nss, .ref nrc, .int (nI jr15851), .int 6, .int mnumber, .int mwhose, .int msize, .int ip15852])), (nrc, .inl (G.2.1, 30, .inl gtrc5853))] H := hP
    have hD : va_D A [(h0, .inr (12, [.ref nw, .ref nk, .int mhasKept, .ref nt, .int mtaped, .ref nr, .int mrowMany, .int mroundOf, .int mroundFrom, .int mouts, .ref nm, .int mfromHour, .int mtoHour, .ref ns, .int mfrom, .int mto, .int msort, .int misFault, .int mdeep, .int mcoded, .int mlines, .ref nl, .ref nc, .ref nF, .ref np, .ref ntr, .ref nb, .int mbestCost, .ref nso, .ref nsi, .ref nit, .ref nsh, .ref nsf, .ref nss, .ref nrc, .int (nI jr15851), .int 6, .int mnumber, .int mwhose, .int msize, .int ip15852])), (nrc, .inl (G.2.1, 30, .inl gtrc5853))] := hD
    obtain ⟨hr5849, w5854⟩ := hr5849
    exact RI (v := r5849) hC hP hD hS [0, 1] (jr15851, ip15852, gtrc5853) rfl rfl (by decide) (⟨trivial, by omega⟩) rfl dX12_dealt_10
set_option maxHeartbeats 4000000 in
set_option maxRecDepth 100000 in
theorem m_body01 (l : Launch) (G : GG) (h0 : Nat) (xx : Int32) (nw : Nat) (nk : Nat) (mhasKept : Int32) (nt : Nat) (mtaped : Int32) (nr : Nat) (mrowMany : Int32) (mroundOf : Int32) (mroundFrom : Int32) (mouts : Int32) (nm : Nat) (mfromHour : Int32) (mtoHour : Int32) (ns : Nat) (mfrom : Int32) (mto : Int32) (msort : Int32) (misFault : Int32) (mdeep : Int32) (mcoded : Int32) (mlines : Int32) (nl : Nat) (nc : Nat) (nF : Nat) (np : Nat) (ntr : Nat) (nb : Nat) (mbestCost : Int32) (nso : Nat) (nsi : Nat) (nit : Nat) (nsh : Nat) (nsf : Nat) (nss : Nat) (nrc : Nat) (jr : Nat) (jd : Nat) (mnumber : Int32) (mwhose : Int32) (msize : Int32) (misParted : Int32) (fnrc : Nat → Int32) (hjr : jr ≤ 30) (hjd : jd < 7) : MI l G yX12_body cX12_body 6 (some .int) 15 0 0 [.ref h0, .int 0, .int 1, .int xx] [(h0, .inr (12, [.ref nw, .ref nk, .int mhasKept, .ref nt, .int mtaped, .ref nr, .int mrowMany, .int mroundOf, .int mroundFrom, .int mouts, .ref nm, .int mfromHour, .int mtoHour, .ref ns, .int mfrom, .int mto, .int msort, .int misFault, .int mdeep, .int mcoded, .int mlines, .ref nl, .ref nc, .ref nF, .ref np, .ref ntr, .ref nb, .int mbestCost, .ref nso, .ref nsi, .ref nit, .ref nsh, .ref nsf, .ref nss, .ref nrc, .int (nI jr), .int (nI jd), .int mnumber, .int mwhose, .int msize, .int misParted])), (nrc, .inl (G.2.1, 30, .inl fnrc))] (fun (r : Int32) (u : Nat × Int32 × (Nat → Int32)) => (True) ∧ (u.1 ≤ 30)) (fun u : Nat × Int32 × (Nat → Int32) => [(h0, .inr (12, [.ref nw, .ref nk, .int mhasKept, .ref nt, .int mtaped, .ref nr, .int mrowMany, .int mroundOf, .int mroundFrom, .int mouts, .ref nm, .int mfromHour, .int mtoHour, .ref ns, .int mfrom, .int mto, .int msort, .int misFault, .int mdeep, .int mcoded, .int mlines, .ref nl, .ref nc, .ref nF, .ref np, .ref ntr, .ref nb, .int mbestCost, .ref nso, .ref nsi, .ref nit, .ref nsh, .ref nsf, .ref nss, .ref nrc, .int (nI u.1), .int (nI jd), .int mnumber, .int mwhose, .int msize, .int u.2.1])), (nrc, .inl (G.2.1, 30, .inl u.2.2))]) := by
  refine MI.start (by decide +kernel) (Nat.le_of_ble_eq_true rfl) ?_
  intro p e s m below meth c A ls hC hK hP hD hS hA hl
  have hl : lv_has ls 6 [(0, .ref h0), (1, .int 0), (2, .int 1), (3, .int xx)] := hl
  obtain ⟨hx, hb, hr, hml, hB, hown, hlocks, hnm⟩ := id hC
  refine lv_iconst (v := 4) hx hb dX12_body_0 (by decide) ?_
  refine lv_iload_n hx hb dX12_body_1 rfl (lv_at hl 1 rfl) ?_
  refine lv_imul hx hb dX12_body_2 ?_
  refine eqi (x1 := 0) (by decide) ?_
  refine lv_iload_n hx hb dX12_body_3 rfl (lv_at hl 2 rfl) ?_
  refine lv_iadd hx hb dX12_body_4 ?_
  refine eqi (x1 := 1) (by decide) ?_
  refine lv_tableIn (tgt := 125) hx hb dX12_body_5 (by decide) (by decide) rfl (by decide) ?_
  refine lv_aload_n hx hb dX12_body_125 rfl (lv_at hl 0 rfl) ?_
  refine lv_bipush (v := 11) hx hb dX12_body_126 (by decide) ?_
  refine vV (wr := []) hC hK hl hP hD hS hA (m_began l G h0 11 nw nk mhasKept nt mtaped nr mrowMany mroundOf mroundFrom mouts nm mfromHour mtoHour ns mfrom mto msort misFault mdeep mcoded mlines nl nc nF np ntr nb mbestCost nso nsi nit nsh nsf nss nrc jr (nI jd) mnumber mwhose msize misParted fnrc (by omega)) si_X12_366 [0, 1] [] rfl rfl (by decide) rfl (by decide) (by decide) rfl rfl rfl rfl rfl (Nat.le_of_ble_eq_true rfl) ⟨Nat.le_of_ble_eq_true rfl, Nat.le_of_ble_eq_true rfl⟩ ⟨Nat.le_of_ble_eq_true rfl, Nat.le_of_ble_eq_true rfl⟩ dX12_body_128 (fun u5856 H locs hr5855 hP hD hS => ?_)
  obtain ⟨jr15857, gtrc5858⟩ := u5856
  try dsimp only at hr5855
  have hP : va_P G.1 vwCl [(h0, .inr (12, [.ref nw, .ref nk, .int mhasKept, .ref nt, .int mtaped, .ref nr, .int mrowMany, .int mroundOf, .int mroundFrom, .int mouts, .ref nm, .int mfromHour, .int mtoHour, .ref ns, .int mfrom, .int mto, .int msort, .int misFault, .int mdeep, .int mcoded, .int mlines, .ref nl, .ref nc, .ref nF, .ref np, .ref ntr, .ref nb, .int mbestCost, .ref nso, .ref nsi, .ref nit, .ref nsh, .ref nsf, .ref nss, .ref nrc, .int (nI jr15857), .int (nI jd), .int mnumber, .int mwhose, .int msize, .int misParted])), (nrc, .inl (G.2.1, 30, .inl gtrc5858))] H := hP
  have hD : va_D A [(h0, .inr (12, [.ref nw, .ref nk, .int mhasKept, .ref nt, .int mtaped, .ref nr, .int mrowMany, .int mroundOf, .int mroundFrom, .int mouts, .ref nm, .int mfromHour, .int mtoHour, .ref ns, .int mfrom, .int mto, .int msort, .int misFault, .int mdeep, .int mcoded, .int mlines, .ref nl, .ref nc, .ref nF, .ref np, .ref ntr, .ref nb, .int mbestCost, .ref nso, .ref nsi, .ref nit, .ref nsh, .ref nsf, .ref nss, .ref nrc, .int (nI jr15857), .int (nI jd), .int mnumber, .int mwhose, .int msize, .int misParted])), (nrc, .inl (G.2.1, 30, .inl gtrc5858))] := hD
  have w5859 := hr5855
  refine lv_aload_n hx hb dX12_body_131 rfl (lv_at hl 0 rfl) ?_
  refine lv_iconst (v := 0) hx hb dX12_body_132 (by decide) ?_
  refine lv_iload_n hx hb dX12_body_133 rfl (lv_at hl 3 rfl) ?_
  refine iV (wr := []) hC hK hl hP hD hS hA (m_dealt0 l G h0 xx nw nk mhasKept nt mtaped nr mrowMany mroundOf mroundFrom mouts nm mfromHour mtoHour ns mfrom mto msort misFault mdeep mcoded mlines nl nc nF np ntr nb mbestCost nso nsi nit nsh nsf nss nrc jr15857 jd mnumber mwhose msize misParted gtrc5858 (by omega) (by omega)) si_X12_372 [0, 1] [] rfl rfl (by decide) rfl (by decide) (by decide) rfl rfl rfl rfl rfl (Nat.le_of_ble_eq_true rfl) ⟨Nat.le_of_ble_eq_true rfl, Nat.le_of_ble_eq_true rfl⟩ ⟨Nat.le_of_ble_eq_true rfl, Nat.le_of_ble_eq_true rfl⟩ dX12_body_134 (fun r5860 u5861 H locs hr5860 hP hD hS => ?_)
  obtain ⟨jr15862, ip15863, gtrc5864⟩ := u5861
  try dsimp only at hr5860
  have hP : va_P G.1 vwCl [(h0, .inr (12, [.ref nw, .ref nk, .int mhasKept, .ref nt, .int mtaped, .ref nr, .int mrowMany, .int mroundOf, .int mroundFrom, .int mouts, .ref nm, .int mfromHour, .int mtoHour, .ref ns, .int mfrom, .int mto, .int msort, .int misFault, .int mdeep, .int mcoded, .int mlines, .ref nl, .ref nc, .ref nF, .ref np, .ref ntr, .ref nb, .int mbestCost, .ref nso, .ref nsi, .ref nit, .ref nsh, .ref nsf, .ref nss, .ref nrc, .int (nI jr15862), .int (nI jd), .int mnumber, .int mwhose, .int msize, .int ip15863])), (nrc, .inl (G.2.1, 30, .inl gtrc5864))] H := hP
  have hD : va_D A [(h0, .inr (12, [.ref nw, .ref nk, .int mhasKept, .ref nt, .int mtaped, .ref nr, .int mrowMany, .int mroundOf, .int mroundFrom, .int mouts, .ref nm, .int mfromHour, .int mtoHour, .ref ns, .int mfrom, .int mto, .int msort, .int misFault, .int mdeep, .int mcoded, .int mlines, .ref nl, .ref nc, .ref nF, .ref np, .ref ntr, .ref nb, .int mbestCost, .ref nso, .ref nsi, .ref nit, .ref nsh, .ref nsf, .ref nss, .ref nrc, .int (nI jr15862), .int (nI jd), .int mnumber, .int mwhose, .int msize, .int ip15863])), (nrc, .inl (G.2.1, 30, .inl gtrc5864))] := hD
  obtain ⟨hr5860, w5865⟩ := hr5860
  refine lv_iconst (v := 2) hx hb dX12_body_137 (by decide) ?_
  refine lv_imul hx hb dX12_body_138 ?_
  exact RI (v := r5860 * 2) hC hP hD hS [0, 1] (jr15862, ip15863, gtrc5864) rfl rfl (by decide) (⟨trivial, by omega⟩) rfl dX12_body_139
set_option maxHeartbeats 4000000 in
set_option maxRecDepth 100000 in
theorem m_from01 (l : Launch) (G : GG) (h0 : Nat) (xx : Int32) (nw : Nat) (nk : Nat) (mhasKept : Int32) (nt : Nat) (mtaped : Int32) (nr : Nat) (mrowMany : Int32) (mroundOf : Int32) (mroundFrom : Int32) (mouts : Int32) (nm : Nat) (mfromHour : Int32) (mtoHour : Int32) (ns : Nat) (mfrom : Int32) (mto : Int32) (msort : Int32) (misFault : Int32) (mdeep : Int32) (mcoded : Int32) (mlines : Int32) (nl : Nat) (nc : Nat) (nF : Nat) (np : Nat) (ntr : Nat) (nb : Nat) (mbestCost : Int32) (nso : Nat) (nsi : Nat) (nit : Nat) (nsh : Nat) (nsf : Nat) (nss : Nat) (nrc : Nat) (jr : Nat) (jd : Nat) (mnumber : Int32) (mwhose : Int32) (msize : Int32) (misParted : Int32) (fnrc : Nat → Int32) (hjr : jr ≤ 30) (hjd : jd < 7) : MI l G yX12_bodyFrom cX12_bodyFrom 5 (some .int) 16 0 0 [.ref h0, .int 0, .int 1, .int xx] [(h0, .inr (12, [.ref nw, .ref nk, .int mhasKept, .ref nt, .int mtaped, .ref nr, .int mrowMany, .int mroundOf, .int mroundFrom, .int mouts, .ref nm, .int mfromHour, .int mtoHour, .ref ns, .int mfrom, .int mto, .int msort, .int misFault, .int mdeep, .int mcoded, .int mlines, .ref nl, .ref nc, .ref nF, .ref np, .ref ntr, .ref nb, .int mbestCost, .ref nso, .ref nsi, .ref nit, .ref nsh, .ref nsf, .ref nss, .ref nrc, .int (nI jr), .int (nI jd), .int mnumber, .int mwhose, .int msize, .int misParted])), (nrc, .inl (G.2.1, 30, .inl fnrc))] (fun (r : Int32) (u : Nat × Int32 × (Nat → Int32)) => (True) ∧ (u.1 ≤ 30)) (fun u : Nat × Int32 × (Nat → Int32) => [(h0, .inr (12, [.ref nw, .ref nk, .int mhasKept, .ref nt, .int mtaped, .ref nr, .int mrowMany, .int mroundOf, .int mroundFrom, .int mouts, .ref nm, .int mfromHour, .int mtoHour, .ref ns, .int mfrom, .int mto, .int msort, .int misFault, .int mdeep, .int mcoded, .int mlines, .ref nl, .ref nc, .ref nF, .ref np, .ref ntr, .ref nb, .int mbestCost, .ref nso, .ref nsi, .ref nit, .ref nsh, .ref nsf, .ref nss, .ref nrc, .int (nI u.1), .int (nI jd), .int mnumber, .int mwhose, .int msize, .int u.2.1])), (nrc, .inl (G.2.1, 30, .inl u.2.2))]) := by
  refine MI.start (by decide +kernel) (Nat.le_of_ble_eq_true rfl) ?_
  intro p e s m below meth c A ls hC hK hP hD hS hA hl
  have hl : lv_has ls 5 [(0, .ref h0), (1, .int 0), (2, .int 1), (3, .int xx)] := hl
  obtain ⟨hx, hb, hr, hml, hB, hown, hlocks, hnm⟩ := id hC
  refine lv_iload_n hx hb dX12_bodyFrom_0 rfl (lv_at hl 1 rfl) ?_
  refine lv_istore (lv' := [(4, .int 0), (0, .ref h0), (1, .int 0), (2, .int 1), (3, .int xx)]) hx hb dX12_bodyFrom_1 hl (by decide) rfl (fun ls hl => ?_)
  refine lv_iload hx hb dX12_bodyFrom_3 (lv_at hl 0 rfl) ?_
  refine lv_iload_n hx hb dX12_bodyFrom_5 rfl (lv_at hl 3 rfl) ?_
  refine pS hC hK hl (m_hasOwn01 l G) si_X12_360 rfl rfl (Nat.le_of_ble_eq_true rfl) ⟨Nat.le_of_ble_eq_true rfl, Nat.le_of_ble_eq_true rfl⟩ ⟨by first | exact Nat.le_of_ble_eq_true rfl | exact Nat.zero_le _, by first | exact Nat.le_of_ble_eq_true rfl | exact Nat.zero_le _⟩ dX12_bodyFrom_6 (fun r5866 hr5866 => ?_)
  obtain rfl := hr5866
  refine lv_if_ne (tgt := 22) hx hb dX12_bodyFrom_9 (by decide) (fun _ => ?_) (fun c9 => absurd c9 (by decide))
  refine lv_aload_n hx hb dX12_bodyFrom_22 rfl (lv_at hl 1 rfl) ?_
  refine lv_iload hx hb dX12_bodyFrom_23 (lv_at hl 0 rfl) ?_
  refine lv_iload_n hx hb dX12_bodyFrom_25 rfl (lv_at hl 3 rfl) ?_
  refine lv_iload_n hx hb dX12_bodyFrom_26 rfl (lv_at hl 4 rfl) ?_
  refine iV (wr := []) hC hK hl hP hD hS hA (m_body01 l G h0 xx nw nk mhasKept nt mtaped nr mrowMany mroundOf mroundFrom mouts nm mfromHour mtoHour ns mfrom mto msort misFault mdeep mcoded mlines nl nc nF np ntr nb mbestCost nso nsi nit nsh nsf nss nrc jr jd mnumber mwhose msize misParted fnrc (by omega) (by omega)) si_X12_363 [0, 1] [] rfl rfl (by decide) rfl (by decide) (by decide) rfl rfl rfl rfl rfl (Nat.le_of_ble_eq_true rfl) ⟨Nat.le_of_ble_eq_true rfl, Nat.le_of_ble_eq_true rfl⟩ ⟨Nat.le_of_ble_eq_true rfl, Nat.le_of_ble_eq_true rfl⟩ dX12_bodyFrom_27 (fun r5868 u5869 H locs hr5868 hP hD hS => ?_)
  obtain ⟨jr15870, ip15871, gtrc5872⟩ := u5869
  try dsimp only at hr5868
  have hP : va_P G.1 vwCl [(h0, .inr (12, [.ref nw, .ref nk, .int mhasKept, .ref nt, .int mtaped, .ref nr, .int mrowMany, .int mroundOf, .int mroundFrom, .int mouts, .ref nm, .int mfromHour, .int mtoHour, .ref ns, .int mfrom, .int mto, .int msort, .int misFault, .int mdeep, .int mcoded, .int mlines, .ref nl, .ref nc, .ref nF, .ref np, .ref ntr, .ref nb, .int mbestCost, .ref nso, .ref nsi, .ref nit, .ref nsh, .ref nsf, .ref nss, .ref nrc, .int (nI jr15870), .int (nI jd), .int mnumber, .int mwhose, .int msize, .int ip15871])), (nrc, .inl (G.2.1, 30, .inl gtrc5872))] H := hP
  have hD : va_D A [(h0, .inr (12, [.ref nw, .ref nk, .int mhasKept, .ref nt, .int mtaped, .ref nr, .int mrowMany, .int mroundOf, .int mroundFrom, .int mouts, .ref nm, .int mfromHour, .int mtoHour, .ref ns, .int mfrom, .int mto, .int msort, .int misFault, .int mdeep, .int mcoded, .int mlines, .ref nl, .ref nc, .ref nF, .ref np, .ref ntr, .ref nb, .int mbestCost, .ref nso, .ref nsi, .ref nit, .ref nsh, .ref nsf, .ref nss, .ref nrc, .int (nI jr15870), .int (nI jd), .int mnumber, .int mwhose, .int msize, .int ip15871])), (nrc, .inl (G.2.1, 30, .inl gtrc5872))] := hD
  obtain ⟨hr5868, w5873⟩ := hr5868
  exact RI (v := r5868) hC hP hD hS [0, 1] (jr15870, ip15871, gtrc5872) rfl rfl (by decide) (⟨trivial, by omega⟩) rfl dX12_bodyFrom_30
set_option maxHeartbeats 4000000 in
set_option maxRecDepth 100000 in
theorem m_body11 (l : Launch) (G : GG) (h0 : Nat) (xx : Int32) (nw : Nat) (nk : Nat) (mhasKept : Int32) (nt : Nat) (mtaped : Int32) (nr : Nat) (mrowMany : Int32) (mroundOf : Int32) (mroundFrom : Int32) (mouts : Int32) (nm : Nat) (mfromHour : Int32) (mtoHour : Int32) (ns : Nat) (mfrom : Int32) (mto : Int32) (msort : Int32) (misFault : Int32) (mdeep : Int32) (mcoded : Int32) (mlines : Int32) (nl : Nat) (nc : Nat) (nF : Nat) (np : Nat) (ntr : Nat) (nb : Nat) (mbestCost : Int32) (nso : Nat) (nsi : Nat) (nit : Nat) (nsh : Nat) (nsf : Nat) (nss : Nat) (nrc : Nat) (jr : Nat) (jd : Nat) (mnumber : Int32) (mwhose : Int32) (msize : Int32) (misParted : Int32) (fnrc : Nat → Int32) (hjr : jr ≤ 30) (hjd : jd < 7) : MI l G yX12_body cX12_body 6 (some .int) 17 0 0 [.ref h0, .int 1, .int 1, .int xx] [(h0, .inr (12, [.ref nw, .ref nk, .int mhasKept, .ref nt, .int mtaped, .ref nr, .int mrowMany, .int mroundOf, .int mroundFrom, .int mouts, .ref nm, .int mfromHour, .int mtoHour, .ref ns, .int mfrom, .int mto, .int msort, .int misFault, .int mdeep, .int mcoded, .int mlines, .ref nl, .ref nc, .ref nF, .ref np, .ref ntr, .ref nb, .int mbestCost, .ref nso, .ref nsi, .ref nit, .ref nsh, .ref nsf, .ref nss, .ref nrc, .int (nI jr), .int (nI jd), .int mnumber, .int mwhose, .int msize, .int misParted])), (nrc, .inl (G.2.1, 30, .inl fnrc))] (fun (r : Int32) (u : Nat × Int32 × (Nat → Int32)) => (True) ∧ (u.1 ≤ 30)) (fun u : Nat × Int32 × (Nat → Int32) => [(h0, .inr (12, [.ref nw, .ref nk, .int mhasKept, .ref nt, .int mtaped, .ref nr, .int mrowMany, .int mroundOf, .int mroundFrom, .int mouts, .ref nm, .int mfromHour, .int mtoHour, .ref ns, .int mfrom, .int mto, .int msort, .int misFault, .int mdeep, .int mcoded, .int mlines, .ref nl, .ref nc, .ref nF, .ref np, .ref ntr, .ref nb, .int mbestCost, .ref nso, .ref nsi, .ref nit, .ref nsh, .ref nsf, .ref nss, .ref nrc, .int (nI u.1), .int (nI jd), .int mnumber, .int mwhose, .int msize, .int u.2.1])), (nrc, .inl (G.2.1, 30, .inl u.2.2))]) := by
  refine MI.start (by decide +kernel) (Nat.le_of_ble_eq_true rfl) ?_
  intro p e s m below meth c A ls hC hK hP hD hS hA hl
  have hl : lv_has ls 6 [(0, .ref h0), (1, .int 1), (2, .int 1), (3, .int xx)] := hl
  obtain ⟨hx, hb, hr, hml, hB, hown, hlocks, hnm⟩ := id hC
  refine lv_iconst (v := 4) hx hb dX12_body_0 (by decide) ?_
  refine lv_iload_n hx hb dX12_body_1 rfl (lv_at hl 1 rfl) ?_
  refine lv_imul hx hb dX12_body_2 ?_
  refine eqi (x1 := 4) (by decide) ?_
  refine lv_iload_n hx hb dX12_body_3 rfl (lv_at hl 2 rfl) ?_
  refine lv_iadd hx hb dX12_body_4 ?_
  refine eqi (x1 := 5) (by decide) ?_
  refine lv_tableIn (tgt := 207) hx hb dX12_body_5 (by decide) (by decide) rfl (by decide) ?_
  refine lv_aload_n hx hb dX12_body_207 rfl (lv_at hl 0 rfl) ?_
  refine lv_bipush (v := 20) hx hb dX12_body_208 (by decide) ?_
  refine vV (wr := []) hC hK hl hP hD hS hA (m_began l G h0 20 nw nk mhasKept nt mtaped nr mrowMany mroundOf mroundFrom mouts nm mfromHour mtoHour ns mfrom mto msort misFault mdeep mcoded mlines nl nc nF np ntr nb mbestCost nso nsi nit nsh nsf nss nrc jr (nI jd) mnumber mwhose msize misParted fnrc (by omega)) si_X12_366 [0, 1] [] rfl rfl (by decide) rfl (by decide) (by decide) rfl rfl rfl rfl rfl (Nat.le_of_ble_eq_true rfl) ⟨Nat.le_of_ble_eq_true rfl, Nat.le_of_ble_eq_true rfl⟩ ⟨Nat.le_of_ble_eq_true rfl, Nat.le_of_ble_eq_true rfl⟩ dX12_body_210 (fun u5875 H locs hr5874 hP hD hS => ?_)
  obtain ⟨jr15876, gtrc5877⟩ := u5875
  try dsimp only at hr5874
  have hP : va_P G.1 vwCl [(h0, .inr (12, [.ref nw, .ref nk, .int mhasKept, .ref nt, .int mtaped, .ref nr, .int mrowMany, .int mroundOf, .int mroundFrom, .int mouts, .ref nm, .int mfromHour, .int mtoHour, .ref ns, .int mfrom, .int mto, .int msort, .int misFault, .int mdeep, .int mcoded, .int mlines, .ref nl, .ref nc, .ref nF, .ref np, .ref ntr, .ref nb, .int mbestCost, .ref nso, .ref nsi, .ref nit, .ref nsh, .ref nsf, .ref nss, .ref nrc, .int (nI jr15876), .int (nI jd), .int mnumber, .int mwhose, .int msize, .int misParted])), (nrc, .inl (G.2.1, 30, .inl gtrc5877))] H := hP
  have hD : va_D A [(h0, .inr (12, [.ref nw, .ref nk, .int mhasKept, .ref nt, .int mtaped, .ref nr, .int mrowMany, .int mroundOf, .int mroundFrom, .int mouts, .ref nm, .int mfromHour, .int mtoHour, .ref ns, .int mfrom, .int mto, .int msort, .int misFault, .int mdeep, .int mcoded, .int mlines, .ref nl, .ref nc, .ref nF, .ref np, .ref ntr, .ref nb, .int mbestCost, .ref nso, .ref nsi, .ref nit, .ref nsh, .ref nsf, .ref nss, .ref nrc, .int (nI jr15876), .int (nI jd), .int mnumber, .int mwhose, .int msize, .int misParted])), (nrc, .inl (G.2.1, 30, .inl gtrc5877))] := hD
  have w5878 := hr5874
  refine lv_aload_n hx hb dX12_body_213 rfl (lv_at hl 0 rfl) ?_
  refine lv_iconst (v := 0) hx hb dX12_body_214 (by decide) ?_
  refine lv_iconst (v := 1) hx hb dX12_body_215 (by decide) ?_
  refine lv_iload_n hx hb dX12_body_216 rfl (lv_at hl 3 rfl) ?_
  refine iV (wr := []) hC hK hl hP hD hS hA (m_from01 l G h0 xx nw nk mhasKept nt mtaped nr mrowMany mroundOf mroundFrom mouts nm mfromHour mtoHour ns mfrom mto msort misFault mdeep mcoded mlines nl nc nF np ntr nb mbestCost nso nsi nit nsh nsf nss nrc jr15876 jd mnumber mwhose msize misParted gtrc5877 (by omega) (by omega)) si_X12_357 [0, 1] [] rfl rfl (by decide) rfl (by decide) (by decide) rfl rfl rfl rfl rfl (Nat.le_of_ble_eq_true rfl) ⟨Nat.le_of_ble_eq_true rfl, Nat.le_of_ble_eq_true rfl⟩ ⟨Nat.le_of_ble_eq_true rfl, Nat.le_of_ble_eq_true rfl⟩ dX12_body_217 (fun r5879 u5880 H locs hr5879 hP hD hS => ?_)
  obtain ⟨jr15881, ip15882, gtrc5883⟩ := u5880
  try dsimp only at hr5879
  have hP : va_P G.1 vwCl [(h0, .inr (12, [.ref nw, .ref nk, .int mhasKept, .ref nt, .int mtaped, .ref nr, .int mrowMany, .int mroundOf, .int mroundFrom, .int mouts, .ref nm, .int mfromHour, .int mtoHour, .ref ns, .int mfrom, .int mto, .int msort, .int misFault, .int mdeep, .int mcoded, .int mlines, .ref nl, .ref nc, .ref nF, .ref np, .ref ntr, .ref nb, .int mbestCost, .ref nso, .ref nsi, .ref nit, .ref nsh, .ref nsf, .ref nss, .ref nrc, .int (nI jr15881), .int (nI jd), .int mnumber, .int mwhose, .int msize, .int ip15882])), (nrc, .inl (G.2.1, 30, .inl gtrc5883))] H := hP
  have hD : va_D A [(h0, .inr (12, [.ref nw, .ref nk, .int mhasKept, .ref nt, .int mtaped, .ref nr, .int mrowMany, .int mroundOf, .int mroundFrom, .int mouts, .ref nm, .int mfromHour, .int mtoHour, .ref ns, .int mfrom, .int mto, .int msort, .int misFault, .int mdeep, .int mcoded, .int mlines, .ref nl, .ref nc, .ref nF, .ref np, .ref ntr, .ref nb, .int mbestCost, .ref nso, .ref nsi, .ref nit, .ref nsh, .ref nsf, .ref nss, .ref nrc, .int (nI jr15881), .int (nI jd), .int mnumber, .int mwhose, .int msize, .int ip15882])), (nrc, .inl (G.2.1, 30, .inl gtrc5883))] := hD
  obtain ⟨hr5879, w5884⟩ := hr5879
  refine lv_aload_n hx hb dX12_body_220 rfl (lv_at hl 0 rfl) ?_
  refine gf_X12_378 hC rfl hK hP 0 rfl rfl dX12_body_221 ?_
  refine lv_ixor hx hb dX12_body_224 ?_
  exact RI (v := r5879 ^^^ mnumber) hC hP hD hS [0, 1] (jr15881, ip15882, gtrc5883) rfl rfl (by decide) (⟨trivial, by omega⟩) rfl dX12_body_225
set_option maxHeartbeats 4000000 in
set_option maxRecDepth 100000 in
theorem m_from11 (l : Launch) (G : GG) (h0 : Nat) (xx : Int32) (nw : Nat) (nk : Nat) (mhasKept : Int32) (nt : Nat) (mtaped : Int32) (nr : Nat) (mrowMany : Int32) (mroundOf : Int32) (mroundFrom : Int32) (mouts : Int32) (nm : Nat) (mfromHour : Int32) (mtoHour : Int32) (ns : Nat) (mfrom : Int32) (mto : Int32) (msort : Int32) (misFault : Int32) (mdeep : Int32) (mcoded : Int32) (mlines : Int32) (nl : Nat) (nc : Nat) (nF : Nat) (np : Nat) (ntr : Nat) (nb : Nat) (mbestCost : Int32) (nso : Nat) (nsi : Nat) (nit : Nat) (nsh : Nat) (nsf : Nat) (nss : Nat) (nrc : Nat) (jr : Nat) (jd : Nat) (mnumber : Int32) (mwhose : Int32) (msize : Int32) (misParted : Int32) (fnrc : Nat → Int32) (hjr : jr ≤ 30) (hjd : jd < 7) : MI l G yX12_bodyFrom cX12_bodyFrom 5 (some .int) 18 0 0 [.ref h0, .int 1, .int 1, .int xx] [(h0, .inr (12, [.ref nw, .ref nk, .int mhasKept, .ref nt, .int mtaped, .ref nr, .int mrowMany, .int mroundOf, .int mroundFrom, .int mouts, .ref nm, .int mfromHour, .int mtoHour, .ref ns, .int mfrom, .int mto, .int msort, .int misFault, .int mdeep, .int mcoded, .int mlines, .ref nl, .ref nc, .ref nF, .ref np, .ref ntr, .ref nb, .int mbestCost, .ref nso, .ref nsi, .ref nit, .ref nsh, .ref nsf, .ref nss, .ref nrc, .int (nI jr), .int (nI jd), .int mnumber, .int mwhose, .int msize, .int misParted])), (nrc, .inl (G.2.1, 30, .inl fnrc))] (fun (r : Int32) (u : Nat × Int32 × (Nat → Int32)) => (True) ∧ (u.1 ≤ 30)) (fun u : Nat × Int32 × (Nat → Int32) => [(h0, .inr (12, [.ref nw, .ref nk, .int mhasKept, .ref nt, .int mtaped, .ref nr, .int mrowMany, .int mroundOf, .int mroundFrom, .int mouts, .ref nm, .int mfromHour, .int mtoHour, .ref ns, .int mfrom, .int mto, .int msort, .int misFault, .int mdeep, .int mcoded, .int mlines, .ref nl, .ref nc, .ref nF, .ref np, .ref ntr, .ref nb, .int mbestCost, .ref nso, .ref nsi, .ref nit, .ref nsh, .ref nsf, .ref nss, .ref nrc, .int (nI u.1), .int (nI jd), .int mnumber, .int mwhose, .int msize, .int u.2.1])), (nrc, .inl (G.2.1, 30, .inl u.2.2))]) := by
  refine MI.start (by decide +kernel) (Nat.le_of_ble_eq_true rfl) ?_
  intro p e s m below meth c A ls hC hK hP hD hS hA hl
  have hl : lv_has ls 5 [(0, .ref h0), (1, .int 1), (2, .int 1), (3, .int xx)] := hl
  obtain ⟨hx, hb, hr, hml, hB, hown, hlocks, hnm⟩ := id hC
  refine lv_iload_n hx hb dX12_bodyFrom_0 rfl (lv_at hl 1 rfl) ?_
  refine lv_istore (lv' := [(4, .int 1), (0, .ref h0), (1, .int 1), (2, .int 1), (3, .int xx)]) hx hb dX12_bodyFrom_1 hl (by decide) rfl (fun ls hl => ?_)
  refine lv_iload hx hb dX12_bodyFrom_3 (lv_at hl 0 rfl) ?_
  refine lv_iload_n hx hb dX12_bodyFrom_5 rfl (lv_at hl 3 rfl) ?_
  refine pS hC hK hl (m_hasOwn11 l G) si_X12_360 rfl rfl (Nat.le_of_ble_eq_true rfl) ⟨Nat.le_of_ble_eq_true rfl, Nat.le_of_ble_eq_true rfl⟩ ⟨by first | exact Nat.le_of_ble_eq_true rfl | exact Nat.zero_le _, by first | exact Nat.le_of_ble_eq_true rfl | exact Nat.zero_le _⟩ dX12_bodyFrom_6 (fun r5885 hr5885 => ?_)
  obtain rfl := hr5885
  refine lv_if_ne (tgt := 22) hx hb dX12_bodyFrom_9 (by decide) (fun _ => ?_) (fun c9 => absurd c9 (by decide))
  refine lv_aload_n hx hb dX12_bodyFrom_22 rfl (lv_at hl 1 rfl) ?_
  refine lv_iload hx hb dX12_bodyFrom_23 (lv_at hl 0 rfl) ?_
  refine lv_iload_n hx hb dX12_bodyFrom_25 rfl (lv_at hl 3 rfl) ?_
  refine lv_iload_n hx hb dX12_bodyFrom_26 rfl (lv_at hl 4 rfl) ?_
  refine iV (wr := []) hC hK hl hP hD hS hA (m_body11 l G h0 xx nw nk mhasKept nt mtaped nr mrowMany mroundOf mroundFrom mouts nm mfromHour mtoHour ns mfrom mto msort misFault mdeep mcoded mlines nl nc nF np ntr nb mbestCost nso nsi nit nsh nsf nss nrc jr jd mnumber mwhose msize misParted fnrc (by omega) (by omega)) si_X12_363 [0, 1] [] rfl rfl (by decide) rfl (by decide) (by decide) rfl rfl rfl rfl rfl (Nat.le_of_ble_eq_true rfl) ⟨Nat.le_of_ble_eq_true rfl, Nat.le_of_ble_eq_true rfl⟩ ⟨Nat.le_of_ble_eq_true rfl, Nat.le_of_ble_eq_true rfl⟩ dX12_bodyFrom_27 (fun r5887 u5888 H locs hr5887 hP hD hS => ?_)
  obtain ⟨jr15889, ip15890, gtrc5891⟩ := u5888
  try dsimp only at hr5887
  have hP : va_P G.1 vwCl [(h0, .inr (12, [.ref nw, .ref nk, .int mhasKept, .ref nt, .int mtaped, .ref nr, .int mrowMany, .int mroundOf, .int mroundFrom, .int mouts, .ref nm, .int mfromHour, .int mtoHour, .ref ns, .int mfrom, .int mto, .int msort, .int misFault, .int mdeep, .int mcoded, .int mlines, .ref nl, .ref nc, .ref nF, .ref np, .ref ntr, .ref nb, .int mbestCost, .ref nso, .ref nsi, .ref nit, .ref nsh, .ref nsf, .ref nss, .ref nrc, .int (nI jr15889), .int (nI jd), .int mnumber, .int mwhose, .int msize, .int ip15890])), (nrc, .inl (G.2.1, 30, .inl gtrc5891))] H := hP
  have hD : va_D A [(h0, .inr (12, [.ref nw, .ref nk, .int mhasKept, .ref nt, .int mtaped, .ref nr, .int mrowMany, .int mroundOf, .int mroundFrom, .int mouts, .ref nm, .int mfromHour, .int mtoHour, .ref ns, .int mfrom, .int mto, .int msort, .int misFault, .int mdeep, .int mcoded, .int mlines, .ref nl, .ref nc, .ref nF, .ref np, .ref ntr, .ref nb, .int mbestCost, .ref nso, .ref nsi, .ref nit, .ref nsh, .ref nsf, .ref nss, .ref nrc, .int (nI jr15889), .int (nI jd), .int mnumber, .int mwhose, .int msize, .int ip15890])), (nrc, .inl (G.2.1, 30, .inl gtrc5891))] := hD
  obtain ⟨hr5887, w5892⟩ := hr5887
  exact RI (v := r5887) hC hP hD hS [0, 1] (jr15889, ip15890, gtrc5891) rfl rfl (by decide) (⟨trivial, by omega⟩) rfl dX12_bodyFrom_30
set_option maxHeartbeats 4000000 in
set_option maxRecDepth 100000 in
theorem m_body31 (l : Launch) (G : GG) (h0 : Nat) (xx : Int32) (nw : Nat) (nk : Nat) (mhasKept : Int32) (nt : Nat) (mtaped : Int32) (nr : Nat) (mrowMany : Int32) (mroundOf : Int32) (mroundFrom : Int32) (mouts : Int32) (nm : Nat) (mfromHour : Int32) (mtoHour : Int32) (ns : Nat) (mfrom : Int32) (mto : Int32) (msort : Int32) (misFault : Int32) (mdeep : Int32) (mcoded : Int32) (mlines : Int32) (nl : Nat) (nc : Nat) (nF : Nat) (np : Nat) (ntr : Nat) (nb : Nat) (mbestCost : Int32) (nso : Nat) (nsi : Nat) (nit : Nat) (nsh : Nat) (nsf : Nat) (nss : Nat) (nrc : Nat) (jr : Nat) (jd : Nat) (mnumber : Int32) (mwhose : Int32) (msize : Int32) (misParted : Int32) (fnrc : Nat → Int32) (hjr : jr ≤ 30) (hjd : jd < 7) : MI l G yX12_body cX12_body 6 (some .int) 19 0 0 [.ref h0, .int 3, .int 1, .int xx] [(h0, .inr (12, [.ref nw, .ref nk, .int mhasKept, .ref nt, .int mtaped, .ref nr, .int mrowMany, .int mroundOf, .int mroundFrom, .int mouts, .ref nm, .int mfromHour, .int mtoHour, .ref ns, .int mfrom, .int mto, .int msort, .int misFault, .int mdeep, .int mcoded, .int mlines, .ref nl, .ref nc, .ref nF, .ref np, .ref ntr, .ref nb, .int mbestCost, .ref nso, .ref nsi, .ref nit, .ref nsh, .ref nsf, .ref nss, .ref nrc, .int (nI jr), .int (nI jd), .int mnumber, .int mwhose, .int msize, .int misParted])), (nrc, .inl (G.2.1, 30, .inl fnrc))] (fun (r : Int32) (u : Nat × Int32 × (Nat → Int32)) => (True) ∧ (u.1 ≤ 30)) (fun u : Nat × Int32 × (Nat → Int32) => [(h0, .inr (12, [.ref nw, .ref nk, .int mhasKept, .ref nt, .int mtaped, .ref nr, .int mrowMany, .int mroundOf, .int mroundFrom, .int mouts, .ref nm, .int mfromHour, .int mtoHour, .ref ns, .int mfrom, .int mto, .int msort, .int misFault, .int mdeep, .int mcoded, .int mlines, .ref nl, .ref nc, .ref nF, .ref np, .ref ntr, .ref nb, .int mbestCost, .ref nso, .ref nsi, .ref nit, .ref nsh, .ref nsf, .ref nss, .ref nrc, .int (nI u.1), .int (nI jd), .int mnumber, .int mwhose, .int msize, .int u.2.1])), (nrc, .inl (G.2.1, 30, .inl u.2.2))]) := by
  refine MI.start (by decide +kernel) (Nat.le_of_ble_eq_true rfl) ?_
  intro p e s m below meth c A ls hC hK hP hD hS hA hl
  have hl : lv_has ls 6 [(0, .ref h0), (1, .int 3), (2, .int 1), (3, .int xx)] := hl
  obtain ⟨hx, hb, hr, hml, hB, hown, hlocks, hnm⟩ := id hC
  refine lv_iconst (v := 4) hx hb dX12_body_0 (by decide) ?_
  refine lv_iload_n hx hb dX12_body_1 rfl (lv_at hl 1 rfl) ?_
  refine lv_imul hx hb dX12_body_2 ?_
  refine eqi (x1 := 12) (by decide) ?_
  refine lv_iload_n hx hb dX12_body_3 rfl (lv_at hl 2 rfl) ?_
  refine lv_iadd hx hb dX12_body_4 ?_
  refine eqi (x1 := 13) (by decide) ?_
  refine lv_tableIn (tgt := 242) hx hb dX12_body_5 (by decide) (by decide) rfl (by decide) ?_
  refine lv_aload_n hx hb dX12_body_242 rfl (lv_at hl 0 rfl) ?_
  refine lv_bipush (v := 40) hx hb dX12_body_243 (by decide) ?_
  refine vV (wr := []) hC hK hl hP hD hS hA (m_began l G h0 40 nw nk mhasKept nt mtaped nr mrowMany mroundOf mroundFrom mouts nm mfromHour mtoHour ns mfrom mto msort misFault mdeep mcoded mlines nl nc nF np ntr nb mbestCost nso nsi nit nsh nsf nss nrc jr (nI jd) mnumber mwhose msize misParted fnrc (by omega)) si_X12_366 [0, 1] [] rfl rfl (by decide) rfl (by decide) (by decide) rfl rfl rfl rfl rfl (Nat.le_of_ble_eq_true rfl) ⟨Nat.le_of_ble_eq_true rfl, Nat.le_of_ble_eq_true rfl⟩ ⟨Nat.le_of_ble_eq_true rfl, Nat.le_of_ble_eq_true rfl⟩ dX12_body_245 (fun u5894 H locs hr5893 hP hD hS => ?_)
  obtain ⟨jr15895, gtrc5896⟩ := u5894
  try dsimp only at hr5893
  have hP : va_P G.1 vwCl [(h0, .inr (12, [.ref nw, .ref nk, .int mhasKept, .ref nt, .int mtaped, .ref nr, .int mrowMany, .int mroundOf, .int mroundFrom, .int mouts, .ref nm, .int mfromHour, .int mtoHour, .ref ns, .int mfrom, .int mto, .int msort, .int misFault, .int mdeep, .int mcoded, .int mlines, .ref nl, .ref nc, .ref nF, .ref np, .ref ntr, .ref nb, .int mbestCost, .ref nso, .ref nsi, .ref nit, .ref nsh, .ref nsf, .ref nss, .ref nrc, .int (nI jr15895), .int (nI jd), .int mnumber, .int mwhose, .int msize, .int misParted])), (nrc, .inl (G.2.1, 30, .inl gtrc5896))] H := hP
  have hD : va_D A [(h0, .inr (12, [.ref nw, .ref nk, .int mhasKept, .ref nt, .int mtaped, .ref nr, .int mrowMany, .int mroundOf, .int mroundFrom, .int mouts, .ref nm, .int mfromHour, .int mtoHour, .ref ns, .int mfrom, .int mto, .int msort, .int misFault, .int mdeep, .int mcoded, .int mlines, .ref nl, .ref nc, .ref nF, .ref np, .ref ntr, .ref nb, .int mbestCost, .ref nso, .ref nsi, .ref nit, .ref nsh, .ref nsf, .ref nss, .ref nrc, .int (nI jr15895), .int (nI jd), .int mnumber, .int mwhose, .int msize, .int misParted])), (nrc, .inl (G.2.1, 30, .inl gtrc5896))] := hD
  have w5897 := hr5893
  refine lv_iconst (v := 0) hx hb dX12_body_248 (by decide) ?_
  refine lv_aload_n hx hb dX12_body_249 rfl (lv_at hl 0 rfl) ?_
  refine lv_iconst (v := 1) hx hb dX12_body_250 (by decide) ?_
  refine lv_iconst (v := 1) hx hb dX12_body_251 (by decide) ?_
  refine lv_iload_n hx hb dX12_body_252 rfl (lv_at hl 3 rfl) ?_
  refine iV (wr := []) hC hK hl hP hD hS hA (m_from11 l G h0 xx nw nk mhasKept nt mtaped nr mrowMany mroundOf mroundFrom mouts nm mfromHour mtoHour ns mfrom mto msort misFault mdeep mcoded mlines nl nc nF np ntr nb mbestCost nso nsi nit nsh nsf nss nrc jr15895 jd mnumber mwhose msize misParted gtrc5896 (by omega) (by omega)) si_X12_357 [0, 1] [] rfl rfl (by decide) rfl (by decide) (by decide) rfl rfl rfl rfl rfl (Nat.le_of_ble_eq_true rfl) ⟨Nat.le_of_ble_eq_true rfl, Nat.le_of_ble_eq_true rfl⟩ ⟨Nat.le_of_ble_eq_true rfl, Nat.le_of_ble_eq_true rfl⟩ dX12_body_253 (fun r5898 u5899 H locs hr5898 hP hD hS => ?_)
  obtain ⟨jr15900, ip15901, gtrc5902⟩ := u5899
  try dsimp only at hr5898
  have hP : va_P G.1 vwCl [(h0, .inr (12, [.ref nw, .ref nk, .int mhasKept, .ref nt, .int mtaped, .ref nr, .int mrowMany, .int mroundOf, .int mroundFrom, .int mouts, .ref nm, .int mfromHour, .int mtoHour, .ref ns, .int mfrom, .int mto, .int msort, .int misFault, .int mdeep, .int mcoded, .int mlines, .ref nl, .ref nc, .ref nF, .ref np, .ref ntr, .ref nb, .int mbestCost, .ref nso, .ref nsi, .ref nit, .ref nsh, .ref nsf, .ref nss, .ref nrc, .int (nI jr15900), .int (nI jd), .int mnumber, .int mwhose, .int msize, .int ip15901])), (nrc, .inl (G.2.1, 30, .inl gtrc5902))] H := hP
  have hD : va_D A [(h0, .inr (12, [.ref nw, .ref nk, .int mhasKept, .ref nt, .int mtaped, .ref nr, .int mrowMany, .int mroundOf, .int mroundFrom, .int mouts, .ref nm, .int mfromHour, .int mtoHour, .ref ns, .int mfrom, .int mto, .int msort, .int misFault, .int mdeep, .int mcoded, .int mlines, .ref nl, .ref nc, .ref nF, .ref np, .ref ntr, .ref nb, .int mbestCost, .ref nso, .ref nsi, .ref nit, .ref nsh, .ref nsf, .ref nss, .ref nrc, .int (nI jr15900), .int (nI jd), .int mnumber, .int mwhose, .int msize, .int ip15901])), (nrc, .inl (G.2.1, 30, .inl gtrc5902))] := hD
  obtain ⟨hr5898, w5903⟩ := hr5898
  refine lv_isub hx hb dX12_body_256 ?_
  exact RI (v := 0 - r5898) hC hP hD hS [0, 1] (jr15900, ip15901, gtrc5902) rfl rfl (by decide) (⟨trivial, by omega⟩) rfl dX12_body_257
set_option maxHeartbeats 4000000 in
set_option maxRecDepth 100000 in
theorem m_from31 (l : Launch) (G : GG) (h0 : Nat) (xx : Int32) (nw : Nat) (nk : Nat) (mhasKept : Int32) (nt : Nat) (mtaped : Int32) (nr : Nat) (mrowMany : Int32) (mroundOf : Int32) (mroundFrom : Int32) (mouts : Int32) (nm : Nat) (mfromHour : Int32) (mtoHour : Int32) (ns : Nat) (mfrom : Int32) (mto : Int32) (msort : Int32) (misFault : Int32) (mdeep : Int32) (mcoded : Int32) (mlines : Int32) (nl : Nat) (nc : Nat) (nF : Nat) (np : Nat) (ntr : Nat) (nb : Nat) (mbestCost : Int32) (nso : Nat) (nsi : Nat) (nit : Nat) (nsh : Nat) (nsf : Nat) (nss : Nat) (nrc : Nat) (jr : Nat) (jd : Nat) (mnumber : Int32) (mwhose : Int32) (msize : Int32) (misParted : Int32) (fnrc : Nat → Int32) (hjr : jr ≤ 30) (hjd : jd < 7) : MI l G yX12_bodyFrom cX12_bodyFrom 5 (some .int) 20 0 0 [.ref h0, .int 3, .int 1, .int xx] [(h0, .inr (12, [.ref nw, .ref nk, .int mhasKept, .ref nt, .int mtaped, .ref nr, .int mrowMany, .int mroundOf, .int mroundFrom, .int mouts, .ref nm, .int mfromHour, .int mtoHour, .ref ns, .int mfrom, .int mto, .int msort, .int misFault, .int mdeep, .int mcoded, .int mlines, .ref nl, .ref nc, .ref nF, .ref np, .ref ntr, .ref nb, .int mbestCost, .ref nso, .ref nsi, .ref nit, .ref nsh, .ref nsf, .ref nss, .ref nrc, .int (nI jr), .int (nI jd), .int mnumber, .int mwhose, .int msize, .int misParted])), (nrc, .inl (G.2.1, 30, .inl fnrc))] (fun (r : Int32) (u : Nat × Int32 × (Nat → Int32)) => (True) ∧ (u.1 ≤ 30)) (fun u : Nat × Int32 × (Nat → Int32) => [(h0, .inr (12, [.ref nw, .ref nk, .int mhasKept, .ref nt, .int mtaped, .ref nr, .int mrowMany, .int mroundOf, .int mroundFrom, .int mouts, .ref nm, .int mfromHour, .int mtoHour, .ref ns, .int mfrom, .int mto, .int msort, .int misFault, .int mdeep, .int mcoded, .int mlines, .ref nl, .ref nc, .ref nF, .ref np, .ref ntr, .ref nb, .int mbestCost, .ref nso, .ref nsi, .ref nit, .ref nsh, .ref nsf, .ref nss, .ref nrc, .int (nI u.1), .int (nI jd), .int mnumber, .int mwhose, .int msize, .int u.2.1])), (nrc, .inl (G.2.1, 30, .inl u.2.2))]) := by
  refine MI.start (by decide +kernel) (Nat.le_of_ble_eq_true rfl) ?_
  intro p e s m below meth c A ls hC hK hP hD hS hA hl
  have hl : lv_has ls 5 [(0, .ref h0), (1, .int 3), (2, .int 1), (3, .int xx)] := hl
  obtain ⟨hx, hb, hr, hml, hB, hown, hlocks, hnm⟩ := id hC
  refine lv_iload_n hx hb dX12_bodyFrom_0 rfl (lv_at hl 1 rfl) ?_
  refine lv_istore (lv' := [(4, .int 3), (0, .ref h0), (1, .int 3), (2, .int 1), (3, .int xx)]) hx hb dX12_bodyFrom_1 hl (by decide) rfl (fun ls hl => ?_)
  refine lv_iload hx hb dX12_bodyFrom_3 (lv_at hl 0 rfl) ?_
  refine lv_iload_n hx hb dX12_bodyFrom_5 rfl (lv_at hl 3 rfl) ?_
  refine pS hC hK hl (m_hasOwn31 l G) si_X12_360 rfl rfl (Nat.le_of_ble_eq_true rfl) ⟨Nat.le_of_ble_eq_true rfl, Nat.le_of_ble_eq_true rfl⟩ ⟨by first | exact Nat.le_of_ble_eq_true rfl | exact Nat.zero_le _, by first | exact Nat.le_of_ble_eq_true rfl | exact Nat.zero_le _⟩ dX12_bodyFrom_6 (fun r5904 hr5904 => ?_)
  obtain rfl := hr5904
  refine lv_if_ne (tgt := 22) hx hb dX12_bodyFrom_9 (by decide) (fun _ => ?_) (fun c9 => absurd c9 (by decide))
  refine lv_aload_n hx hb dX12_bodyFrom_22 rfl (lv_at hl 1 rfl) ?_
  refine lv_iload hx hb dX12_bodyFrom_23 (lv_at hl 0 rfl) ?_
  refine lv_iload_n hx hb dX12_bodyFrom_25 rfl (lv_at hl 3 rfl) ?_
  refine lv_iload_n hx hb dX12_bodyFrom_26 rfl (lv_at hl 4 rfl) ?_
  refine iV (wr := []) hC hK hl hP hD hS hA (m_body31 l G h0 xx nw nk mhasKept nt mtaped nr mrowMany mroundOf mroundFrom mouts nm mfromHour mtoHour ns mfrom mto msort misFault mdeep mcoded mlines nl nc nF np ntr nb mbestCost nso nsi nit nsh nsf nss nrc jr jd mnumber mwhose msize misParted fnrc (by omega) (by omega)) si_X12_363 [0, 1] [] rfl rfl (by decide) rfl (by decide) (by decide) rfl rfl rfl rfl rfl (Nat.le_of_ble_eq_true rfl) ⟨Nat.le_of_ble_eq_true rfl, Nat.le_of_ble_eq_true rfl⟩ ⟨Nat.le_of_ble_eq_true rfl, Nat.le_of_ble_eq_true rfl⟩ dX12_bodyFrom_27 (fun r5906 u5907 H locs hr5906 hP hD hS => ?_)
  obtain ⟨jr15908, ip15909, gtrc5910⟩ := u5907
  try dsimp only at hr5906
  have hP : va_P G.1 vwCl [(h0, .inr (12, [.ref nw, .ref nk, .int mhasKept, .ref nt, .int mtaped, .ref nr, .int mrowMany, .int mroundOf, .int mroundFrom, .int mouts, .ref nm, .int mfromHour, .int mtoHour, .ref ns, .int mfrom, .int mto, .int msort, .int misFault, .int mdeep, .int mcoded, .int mlines, .ref nl, .ref nc, .ref nF, .ref np, .ref ntr, .ref nb, .int mbestCost, .ref nso, .ref nsi, .ref nit, .ref nsh, .ref nsf, .ref nss, .ref nrc, .int (nI jr15908), .int (nI jd), .int mnumber, .int mwhose, .int msize, .int ip15909])), (nrc, .inl (G.2.1, 30, .inl gtrc5910))] H := hP
  have hD : va_D A [(h0, .inr (12, [.ref nw, .ref nk, .int mhasKept, .ref nt, .int mtaped, .ref nr, .int mrowMany, .int mroundOf, .int mroundFrom, .int mouts, .ref nm, .int mfromHour, .int mtoHour, .ref ns, .int mfrom, .int mto, .int msort, .int misFault, .int mdeep, .int mcoded, .int mlines, .ref nl, .ref nc, .ref nF, .ref np, .ref ntr, .ref nb, .int mbestCost, .ref nso, .ref nsi, .ref nit, .ref nsh, .ref nsf, .ref nss, .ref nrc, .int (nI jr15908), .int (nI jd), .int mnumber, .int mwhose, .int msize, .int ip15909])), (nrc, .inl (G.2.1, 30, .inl gtrc5910))] := hD
  obtain ⟨hr5906, w5911⟩ := hr5906
  exact RI (v := r5906) hC hP hD hS [0, 1] (jr15908, ip15909, gtrc5910) rfl rfl (by decide) (⟨trivial, by omega⟩) rfl dX12_bodyFrom_30
set_option maxHeartbeats 4000000 in
set_option maxRecDepth 100000 in
theorem m_from21 (l : Launch) (G : GG) (h0 : Nat) (xx : Int32) (nw : Nat) (nk : Nat) (mhasKept : Int32) (nt : Nat) (mtaped : Int32) (nr : Nat) (mrowMany : Int32) (mroundOf : Int32) (mroundFrom : Int32) (mouts : Int32) (nm : Nat) (mfromHour : Int32) (mtoHour : Int32) (ns : Nat) (mfrom : Int32) (mto : Int32) (msort : Int32) (misFault : Int32) (mdeep : Int32) (mcoded : Int32) (mlines : Int32) (nl : Nat) (nc : Nat) (nF : Nat) (np : Nat) (ntr : Nat) (nb : Nat) (mbestCost : Int32) (nso : Nat) (nsi : Nat) (nit : Nat) (nsh : Nat) (nsf : Nat) (nss : Nat) (nrc : Nat) (jr : Nat) (jd : Nat) (mnumber : Int32) (mwhose : Int32) (msize : Int32) (misParted : Int32) (fnrc : Nat → Int32) (hjr : jr ≤ 30) (hjd : jd < 7) : MI l G yX12_bodyFrom cX12_bodyFrom 5 (some .int) 24 0 0 [.ref h0, .int 2, .int 1, .int xx] [(h0, .inr (12, [.ref nw, .ref nk, .int mhasKept, .ref nt, .int mtaped, .ref nr, .int mrowMany, .int mroundOf, .int mroundFrom, .int mouts, .ref nm, .int mfromHour, .int mtoHour, .ref ns, .int mfrom, .int mto, .int msort, .int misFault, .int mdeep, .int mcoded, .int mlines, .ref nl, .ref nc, .ref nF, .ref np, .ref ntr, .ref nb, .int mbestCost, .ref nso, .ref nsi, .ref nit, .ref nsh, .ref nsf, .ref nss, .ref nrc, .int (nI jr), .int (nI jd), .int mnumber, .int mwhose, .int msize, .int misParted])), (nrc, .inl (G.2.1, 30, .inl fnrc))] (fun (r : Int32) (u : Nat × Int32 × (Nat → Int32)) => (True) ∧ (u.1 ≤ 30)) (fun u : Nat × Int32 × (Nat → Int32) => [(h0, .inr (12, [.ref nw, .ref nk, .int mhasKept, .ref nt, .int mtaped, .ref nr, .int mrowMany, .int mroundOf, .int mroundFrom, .int mouts, .ref nm, .int mfromHour, .int mtoHour, .ref ns, .int mfrom, .int mto, .int msort, .int misFault, .int mdeep, .int mcoded, .int mlines, .ref nl, .ref nc, .ref nF, .ref np, .ref ntr, .ref nb, .int mbestCost, .ref nso, .ref nsi, .ref nit, .ref nsh, .ref nsf, .ref nss, .ref nrc, .int (nI u.1), .int (nI jd), .int mnumber, .int mwhose, .int msize, .int u.2.1])), (nrc, .inl (G.2.1, 30, .inl u.2.2))]) := by
  refine MI.start (by decide +kernel) (Nat.le_of_ble_eq_true rfl) ?_
  intro p e s m below meth c A ls hC hK hP hD hS hA hl
  have hl : lv_has ls 5 [(0, .ref h0), (1, .int 2), (2, .int 1), (3, .int xx)] := hl
  obtain ⟨hx, hb, hr, hml, hB, hown, hlocks, hnm⟩ := id hC
  refine lv_iload_n hx hb dX12_bodyFrom_0 rfl (lv_at hl 1 rfl) ?_
  refine lv_istore (lv' := [(4, .int 2), (0, .ref h0), (1, .int 2), (2, .int 1), (3, .int xx)]) hx hb dX12_bodyFrom_1 hl (by decide) rfl (fun ls hl => ?_)
  refine lv_iload hx hb dX12_bodyFrom_3 (lv_at hl 0 rfl) ?_
  refine lv_iload_n hx hb dX12_bodyFrom_5 rfl (lv_at hl 3 rfl) ?_
  refine pS hC hK hl (m_hasOwn21 l G) si_X12_360 rfl rfl (Nat.le_of_ble_eq_true rfl) ⟨Nat.le_of_ble_eq_true rfl, Nat.le_of_ble_eq_true rfl⟩ ⟨by first | exact Nat.le_of_ble_eq_true rfl | exact Nat.zero_le _, by first | exact Nat.le_of_ble_eq_true rfl | exact Nat.zero_le _⟩ dX12_bodyFrom_6 (fun r5912 hr5912 => ?_)
  obtain rfl := hr5912
  refine lv_if_ne (tgt := 22) hx hb dX12_bodyFrom_9 (by decide) (fun c9 => absurd (by decide) c9) (fun _ => ?_)
  refine lv_iload hx hb dX12_bodyFrom_12 (lv_at hl 0 rfl) ?_
  refine pS hC hK hl (m_above2 l G) si_X12_348 rfl rfl (Nat.le_of_ble_eq_true rfl) ⟨Nat.le_of_ble_eq_true rfl, Nat.le_of_ble_eq_true rfl⟩ ⟨by first | exact Nat.le_of_ble_eq_true rfl | exact Nat.zero_le _, by first | exact Nat.le_of_ble_eq_true rfl | exact Nat.zero_le _⟩ dX12_bodyFrom_14 (fun r5914 hr5914 => ?_)
  obtain rfl := hr5914
  refine lv_istore (lv' := [(4, .int 0), (0, .ref h0), (1, .int 2), (2, .int 1), (3, .int xx)]) hx hb dX12_bodyFrom_17 hl (by decide) rfl (fun ls hl => ?_)
  refine lv_goto (tgt := 3) hx hb dX12_bodyFrom_19 (by decide) ?_
  refine lv_iload hx hb dX12_bodyFrom_3 (lv_at hl 0 rfl) ?_
  refine lv_iload_n hx hb dX12_bodyFrom_5 rfl (lv_at hl 3 rfl) ?_
  refine pS hC hK hl (m_hasOwn01 l G) si_X12_360 rfl rfl (Nat.le_of_ble_eq_true rfl) ⟨Nat.le_of_ble_eq_true rfl, Nat.le_of_ble_eq_true rfl⟩ ⟨by first | exact Nat.le_of_ble_eq_true rfl | exact Nat.zero_le _, by first | exact Nat.le_of_ble_eq_true rfl | exact Nat.zero_le _⟩ dX12_bodyFrom_6 (fun r5916 hr5916 => ?_)
  obtain rfl := hr5916
  refine lv_if_ne (tgt := 22) hx hb dX12_bodyFrom_9 (by decide) (fun _ => ?_) (fun c9 => absurd c9 (by decide))
  refine lv_aload_n hx hb dX12_bodyFrom_22 rfl (lv_at hl 1 rfl) ?_
  refine lv_iload hx hb dX12_bodyFrom_23 (lv_at hl 0 rfl) ?_
  refine lv_iload_n hx hb dX12_bodyFrom_25 rfl (lv_at hl 3 rfl) ?_
  refine lv_iload_n hx hb dX12_bodyFrom_26 rfl (lv_at hl 4 rfl) ?_
  refine iV (wr := []) hC hK hl hP hD hS hA (m_body01 l G h0 xx nw nk mhasKept nt mtaped nr mrowMany mroundOf mroundFrom mouts nm mfromHour mtoHour ns mfrom mto msort misFault mdeep mcoded mlines nl nc nF np ntr nb mbestCost nso nsi nit nsh nsf nss nrc jr jd mnumber mwhose msize misParted fnrc (by omega) (by omega)) si_X12_363 [0, 1] [] rfl rfl (by decide) rfl (by decide) (by decide) rfl rfl rfl rfl rfl (Nat.le_of_ble_eq_true rfl) ⟨Nat.le_of_ble_eq_true rfl, Nat.le_of_ble_eq_true rfl⟩ ⟨Nat.le_of_ble_eq_true rfl, Nat.le_of_ble_eq_true rfl⟩ dX12_bodyFrom_27 (fun r5918 u5919 H locs hr5918 hP hD hS => ?_)
  obtain ⟨jr15920, ip15921, gtrc5922⟩ := u5919
  try dsimp only at hr5918
  have hP : va_P G.1 vwCl [(h0, .inr (12, [.ref nw, .ref nk, .int mhasKept, .ref nt, .int mtaped, .ref nr, .int mrowMany, .int mroundOf, .int mroundFrom, .int mouts, .ref nm, .int mfromHour, .int mtoHour, .ref ns, .int mfrom, .int mto, .int msort, .int misFault, .int mdeep, .int mcoded, .int mlines, .ref nl, .ref nc, .ref nF, .ref np, .ref ntr, .ref nb, .int mbestCost, .ref nso, .ref nsi, .ref nit, .ref nsh, .ref nsf, .ref nss, .ref nrc, .int (nI jr15920), .int (nI jd), .int mnumber, .int mwhose, .int msize, .int ip15921])), (nrc, .inl (G.2.1, 30, .inl gtrc5922))] H := hP
  have hD : va_D A [(h0, .inr (12, [.ref nw, .ref nk, .int mhasKept, .ref nt, .int mtaped, .ref nr, .int mrowMany, .int mroundOf, .int mroundFrom, .int mouts, .ref nm, .int mfromHour, .int mtoHour, .ref ns, .int mfrom, .int mto, .int msort, .int misFault, .int mdeep, .int mcoded, .int mlines, .ref nl, .ref nc, .ref nF, .ref np, .ref ntr, .ref nb, .int mbestCost, .ref nso, .ref nsi, .ref nit, .ref nsh, .ref nsf, .ref nss, .ref nrc, .int (nI jr15920), .int (nI jd), .int mnumber, .int mwhose, .int msize, .int ip15921])), (nrc, .inl (G.2.1, 30, .inl gtrc5922))] := hD
  obtain ⟨hr5918, w5923⟩ := hr5918
  exact RI (v := r5918) hC hP hD hS [0, 1] (jr15920, ip15921, gtrc5922) rfl rfl (by decide) (⟨trivial, by omega⟩) rfl dX12_bodyFrom_30
set_option maxHeartbeats 4000000 in
set_option maxRecDepth 100000 in
theorem m_from41 (l : Launch) (G : GG) (h0 : Nat) (xx : Int32) (nw : Nat) (nk : Nat) (mhasKept : Int32) (nt : Nat) (mtaped : Int32) (nr : Nat) (mrowMany : Int32) (mroundOf : Int32) (mroundFrom : Int32) (mouts : Int32) (nm : Nat) (mfromHour : Int32) (mtoHour : Int32) (ns : Nat) (mfrom : Int32) (mto : Int32) (msort : Int32) (misFault : Int32) (mdeep : Int32) (mcoded : Int32) (mlines : Int32) (nl : Nat) (nc : Nat) (nF : Nat) (np : Nat) (ntr : Nat) (nb : Nat) (mbestCost : Int32) (nso : Nat) (nsi : Nat) (nit : Nat) (nsh : Nat) (nsf : Nat) (nss : Nat) (nrc : Nat) (jr : Nat) (jd : Nat) (mnumber : Int32) (mwhose : Int32) (msize : Int32) (misParted : Int32) (fnrc : Nat → Int32) (hjr : jr ≤ 30) (hjd : jd < 7) : MI l G yX12_bodyFrom cX12_bodyFrom 5 (some .int) 24 0 0 [.ref h0, .int 4, .int 1, .int xx] [(h0, .inr (12, [.ref nw, .ref nk, .int mhasKept, .ref nt, .int mtaped, .ref nr, .int mrowMany, .int mroundOf, .int mroundFrom, .int mouts, .ref nm, .int mfromHour, .int mtoHour, .ref ns, .int mfrom, .int mto, .int msort, .int misFault, .int mdeep, .int mcoded, .int mlines, .ref nl, .ref nc, .ref nF, .ref np, .ref ntr, .ref nb, .int mbestCost, .ref nso, .ref nsi, .ref nit, .ref nsh, .ref nsf, .ref nss, .ref nrc, .int (nI jr), .int (nI jd), .int mnumber, .int mwhose, .int msize, .int misParted])), (nrc, .inl (G.2.1, 30, .inl fnrc))] (fun (r : Int32) (u : Nat × Int32 × (Nat → Int32)) => (True) ∧ (u.1 ≤ 30)) (fun u : Nat × Int32 × (Nat → Int32) => [(h0, .inr (12, [.ref nw, .ref nk, .int mhasKept, .ref nt, .int mtaped, .ref nr, .int mrowMany, .int mroundOf, .int mroundFrom, .int mouts, .ref nm, .int mfromHour, .int mtoHour, .ref ns, .int mfrom, .int mto, .int msort, .int misFault, .int mdeep, .int mcoded, .int mlines, .ref nl, .ref nc, .ref nF, .ref np, .ref ntr, .ref nb, .int mbestCost, .ref nso, .ref nsi, .ref nit, .ref nsh, .ref nsf, .ref nss, .ref nrc, .int (nI u.1), .int (nI jd), .int mnumber, .int mwhose, .int msize, .int u.2.1])), (nrc, .inl (G.2.1, 30, .inl u.2.2))]) := by
  refine MI.start (by decide +kernel) (Nat.le_of_ble_eq_true rfl) ?_
  intro p e s m below meth c A ls hC hK hP hD hS hA hl
  have hl : lv_has ls 5 [(0, .ref h0), (1, .int 4), (2, .int 1), (3, .int xx)] := hl
  obtain ⟨hx, hb, hr, hml, hB, hown, hlocks, hnm⟩ := id hC
  refine lv_iload_n hx hb dX12_bodyFrom_0 rfl (lv_at hl 1 rfl) ?_
  refine lv_istore (lv' := [(4, .int 4), (0, .ref h0), (1, .int 4), (2, .int 1), (3, .int xx)]) hx hb dX12_bodyFrom_1 hl (by decide) rfl (fun ls hl => ?_)
  refine lv_iload hx hb dX12_bodyFrom_3 (lv_at hl 0 rfl) ?_
  refine lv_iload_n hx hb dX12_bodyFrom_5 rfl (lv_at hl 3 rfl) ?_
  refine pS hC hK hl (m_hasOwn41 l G) si_X12_360 rfl rfl (Nat.le_of_ble_eq_true rfl) ⟨Nat.le_of_ble_eq_true rfl, Nat.le_of_ble_eq_true rfl⟩ ⟨by first | exact Nat.le_of_ble_eq_true rfl | exact Nat.zero_le _, by first | exact Nat.le_of_ble_eq_true rfl | exact Nat.zero_le _⟩ dX12_bodyFrom_6 (fun r5924 hr5924 => ?_)
  obtain rfl := hr5924
  refine lv_if_ne (tgt := 22) hx hb dX12_bodyFrom_9 (by decide) (fun c9 => absurd (by decide) c9) (fun _ => ?_)
  refine lv_iload hx hb dX12_bodyFrom_12 (lv_at hl 0 rfl) ?_
  refine pS hC hK hl (m_above4 l G) si_X12_348 rfl rfl (Nat.le_of_ble_eq_true rfl) ⟨Nat.le_of_ble_eq_true rfl, Nat.le_of_ble_eq_true rfl⟩ ⟨by first | exact Nat.le_of_ble_eq_true rfl | exact Nat.zero_le _, by first | exact Nat.le_of_ble_eq_true rfl | exact Nat.zero_le _⟩ dX12_bodyFrom_14 (fun r5926 hr5926 => ?_)
  obtain rfl := hr5926
  refine lv_istore (lv' := [(4, .int 0), (0, .ref h0), (1, .int 4), (2, .int 1), (3, .int xx)]) hx hb dX12_bodyFrom_17 hl (by decide) rfl (fun ls hl => ?_)
  refine lv_goto (tgt := 3) hx hb dX12_bodyFrom_19 (by decide) ?_
  refine lv_iload hx hb dX12_bodyFrom_3 (lv_at hl 0 rfl) ?_
  refine lv_iload_n hx hb dX12_bodyFrom_5 rfl (lv_at hl 3 rfl) ?_
  refine pS hC hK hl (m_hasOwn01 l G) si_X12_360 rfl rfl (Nat.le_of_ble_eq_true rfl) ⟨Nat.le_of_ble_eq_true rfl, Nat.le_of_ble_eq_true rfl⟩ ⟨by first | exact Nat.le_of_ble_eq_true rfl | exact Nat.zero_le _, by first | exact Nat.le_of_ble_eq_true rfl | exact Nat.zero_le _⟩ dX12_bodyFrom_6 (fun r5928 hr5928 => ?_)
  obtain rfl := hr5928
  refine lv_if_ne (tgt := 22) hx hb dX12_bodyFrom_9 (by decide) (fun _ => ?_) (fun c9 => absurd c9 (by decide))
  refine lv_aload_n hx hb dX12_bodyFrom_22 rfl (lv_at hl 1 rfl) ?_
  refine lv_iload hx hb dX12_bodyFrom_23 (lv_at hl 0 rfl) ?_
  refine lv_iload_n hx hb dX12_bodyFrom_25 rfl (lv_at hl 3 rfl) ?_
  refine lv_iload_n hx hb dX12_bodyFrom_26 rfl (lv_at hl 4 rfl) ?_
  refine iV (wr := []) hC hK hl hP hD hS hA (m_body01 l G h0 xx nw nk mhasKept nt mtaped nr mrowMany mroundOf mroundFrom mouts nm mfromHour mtoHour ns mfrom mto msort misFault mdeep mcoded mlines nl nc nF np ntr nb mbestCost nso nsi nit nsh nsf nss nrc jr jd mnumber mwhose msize misParted fnrc (by omega) (by omega)) si_X12_363 [0, 1] [] rfl rfl (by decide) rfl (by decide) (by decide) rfl rfl rfl rfl rfl (Nat.le_of_ble_eq_true rfl) ⟨Nat.le_of_ble_eq_true rfl, Nat.le_of_ble_eq_true rfl⟩ ⟨Nat.le_of_ble_eq_true rfl, Nat.le_of_ble_eq_true rfl⟩ dX12_bodyFrom_27 (fun r5930 u5931 H locs hr5930 hP hD hS => ?_)
  obtain ⟨jr15932, ip15933, gtrc5934⟩ := u5931
  try dsimp only at hr5930
  have hP : va_P G.1 vwCl [(h0, .inr (12, [.ref nw, .ref nk, .int mhasKept, .ref nt, .int mtaped, .ref nr, .int mrowMany, .int mroundOf, .int mroundFrom, .int mouts, .ref nm, .int mfromHour, .int mtoHour, .ref ns, .int mfrom, .int mto, .int msort, .int misFault, .int mdeep, .int mcoded, .int mlines, .ref nl, .ref nc, .ref nF, .ref np, .ref ntr, .ref nb, .int mbestCost, .ref nso, .ref nsi, .ref nit, .ref nsh, .ref nsf, .ref nss, .ref nrc, .int (nI jr15932), .int (nI jd), .int mnumber, .int mwhose, .int msize, .int ip15933])), (nrc, .inl (G.2.1, 30, .inl gtrc5934))] H := hP
  have hD : va_D A [(h0, .inr (12, [.ref nw, .ref nk, .int mhasKept, .ref nt, .int mtaped, .ref nr, .int mrowMany, .int mroundOf, .int mroundFrom, .int mouts, .ref nm, .int mfromHour, .int mtoHour, .ref ns, .int mfrom, .int mto, .int msort, .int misFault, .int mdeep, .int mcoded, .int mlines, .ref nl, .ref nc, .ref nF, .ref np, .ref ntr, .ref nb, .int mbestCost, .ref nso, .ref nsi, .ref nit, .ref nsh, .ref nsf, .ref nss, .ref nrc, .int (nI jr15932), .int (nI jd), .int mnumber, .int mwhose, .int msize, .int ip15933])), (nrc, .inl (G.2.1, 30, .inl gtrc5934))] := hD
  obtain ⟨hr5930, w5935⟩ := hr5930
  exact RI (v := r5930) hC hP hD hS [0, 1] (jr15932, ip15933, gtrc5934) rfl rfl (by decide) (⟨trivial, by omega⟩) rfl dX12_bodyFrom_30
set_option maxHeartbeats 4000000 in
set_option maxRecDepth 100000 in
theorem m_from51 (l : Launch) (G : GG) (h0 : Nat) (xx : Int32) (nw : Nat) (nk : Nat) (mhasKept : Int32) (nt : Nat) (mtaped : Int32) (nr : Nat) (mrowMany : Int32) (mroundOf : Int32) (mroundFrom : Int32) (mouts : Int32) (nm : Nat) (mfromHour : Int32) (mtoHour : Int32) (ns : Nat) (mfrom : Int32) (mto : Int32) (msort : Int32) (misFault : Int32) (mdeep : Int32) (mcoded : Int32) (mlines : Int32) (nl : Nat) (nc : Nat) (nF : Nat) (np : Nat) (ntr : Nat) (nb : Nat) (mbestCost : Int32) (nso : Nat) (nsi : Nat) (nit : Nat) (nsh : Nat) (nsf : Nat) (nss : Nat) (nrc : Nat) (jr : Nat) (jd : Nat) (mnumber : Int32) (mwhose : Int32) (msize : Int32) (misParted : Int32) (fnrc : Nat → Int32) (hjr : jr ≤ 30) (hjd : jd < 7) : MI l G yX12_bodyFrom cX12_bodyFrom 5 (some .int) 24 0 0 [.ref h0, .int 5, .int 1, .int xx] [(h0, .inr (12, [.ref nw, .ref nk, .int mhasKept, .ref nt, .int mtaped, .ref nr, .int mrowMany, .int mroundOf, .int mroundFrom, .int mouts, .ref nm, .int mfromHour, .int mtoHour, .ref ns, .int mfrom, .int mto, .int msort, .int misFault, .int mdeep, .int mcoded, .int mlines, .ref nl, .ref nc, .ref nF, .ref np, .ref ntr, .ref nb, .int mbestCost, .ref nso, .ref nsi, .ref nit, .ref nsh, .ref nsf, .ref nss, .ref nrc, .int (nI jr), .int (nI jd), .int mnumber, .int mwhose, .int msize, .int misParted])), (nrc, .inl (G.2.1, 30, .inl fnrc))] (fun (r : Int32) (u : Nat × Int32 × (Nat → Int32)) => (True) ∧ (u.1 ≤ 30)) (fun u : Nat × Int32 × (Nat → Int32) => [(h0, .inr (12, [.ref nw, .ref nk, .int mhasKept, .ref nt, .int mtaped, .ref nr, .int mrowMany, .int mroundOf, .int mroundFrom, .int mouts, .ref nm, .int mfromHour, .int mtoHour, .ref ns, .int mfrom, .int mto, .int msort, .int misFault, .int mdeep, .int mcoded, .int mlines, .ref nl, .ref nc, .ref nF, .ref np, .ref ntr, .ref nb, .int mbestCost, .ref nso, .ref nsi, .ref nit, .ref nsh, .ref nsf, .ref nss, .ref nrc, .int (nI u.1), .int (nI jd), .int mnumber, .int mwhose, .int msize, .int u.2.1])), (nrc, .inl (G.2.1, 30, .inl u.2.2))]) := by
  refine MI.start (by decide +kernel) (Nat.le_of_ble_eq_true rfl) ?_
  intro p e s m below meth c A ls hC hK hP hD hS hA hl
  have hl : lv_has ls 5 [(0, .ref h0), (1, .int 5), (2, .int 1), (3, .int xx)] := hl
  obtain ⟨hx, hb, hr, hml, hB, hown, hlocks, hnm⟩ := id hC
  refine lv_iload_n hx hb dX12_bodyFrom_0 rfl (lv_at hl 1 rfl) ?_
  refine lv_istore (lv' := [(4, .int 5), (0, .ref h0), (1, .int 5), (2, .int 1), (3, .int xx)]) hx hb dX12_bodyFrom_1 hl (by decide) rfl (fun ls hl => ?_)
  refine lv_iload hx hb dX12_bodyFrom_3 (lv_at hl 0 rfl) ?_
  refine lv_iload_n hx hb dX12_bodyFrom_5 rfl (lv_at hl 3 rfl) ?_
  refine pS hC hK hl (m_hasOwn51 l G) si_X12_360 rfl rfl (Nat.le_of_ble_eq_true rfl) ⟨Nat.le_of_ble_eq_true rfl, Nat.le_of_ble_eq_true rfl⟩ ⟨by first | exact Nat.le_of_ble_eq_true rfl | exact Nat.zero_le _, by first | exact Nat.le_of_ble_eq_true rfl | exact Nat.zero_le _⟩ dX12_bodyFrom_6 (fun r5936 hr5936 => ?_)
  obtain rfl := hr5936
  refine lv_if_ne (tgt := 22) hx hb dX12_bodyFrom_9 (by decide) (fun c9 => absurd (by decide) c9) (fun _ => ?_)
  refine lv_iload hx hb dX12_bodyFrom_12 (lv_at hl 0 rfl) ?_
  refine pS hC hK hl (m_above5 l G) si_X12_348 rfl rfl (Nat.le_of_ble_eq_true rfl) ⟨Nat.le_of_ble_eq_true rfl, Nat.le_of_ble_eq_true rfl⟩ ⟨by first | exact Nat.le_of_ble_eq_true rfl | exact Nat.zero_le _, by first | exact Nat.le_of_ble_eq_true rfl | exact Nat.zero_le _⟩ dX12_bodyFrom_14 (fun r5938 hr5938 => ?_)
  obtain rfl := hr5938
  refine lv_istore (lv' := [(4, .int 4), (0, .ref h0), (1, .int 5), (2, .int 1), (3, .int xx)]) hx hb dX12_bodyFrom_17 hl (by decide) rfl (fun ls hl => ?_)
  refine lv_goto (tgt := 3) hx hb dX12_bodyFrom_19 (by decide) ?_
  refine lv_iload hx hb dX12_bodyFrom_3 (lv_at hl 0 rfl) ?_
  refine lv_iload_n hx hb dX12_bodyFrom_5 rfl (lv_at hl 3 rfl) ?_
  refine pS hC hK hl (m_hasOwn41 l G) si_X12_360 rfl rfl (Nat.le_of_ble_eq_true rfl) ⟨Nat.le_of_ble_eq_true rfl, Nat.le_of_ble_eq_true rfl⟩ ⟨by first | exact Nat.le_of_ble_eq_true rfl | exact Nat.zero_le _, by first | exact Nat.le_of_ble_eq_true rfl | exact Nat.zero_le _⟩ dX12_bodyFrom_6 (fun r5940 hr5940 => ?_)
  obtain rfl := hr5940
  refine lv_if_ne (tgt := 22) hx hb dX12_bodyFrom_9 (by decide) (fun c9 => absurd (by decide) c9) (fun _ => ?_)
  refine lv_iload hx hb dX12_bodyFrom_12 (lv_at hl 0 rfl) ?_
  refine pS hC hK hl (m_above4 l G) si_X12_348 rfl rfl (Nat.le_of_ble_eq_true rfl) ⟨Nat.le_of_ble_eq_true rfl, Nat.le_of_ble_eq_true rfl⟩ ⟨by first | exact Nat.le_of_ble_eq_true rfl | exact Nat.zero_le _, by first | exact Nat.le_of_ble_eq_true rfl | exact Nat.zero_le _⟩ dX12_bodyFrom_14 (fun r5942 hr5942 => ?_)
  obtain rfl := hr5942
  refine lv_istore (lv' := [(4, .int 0), (0, .ref h0), (1, .int 5), (2, .int 1), (3, .int xx)]) hx hb dX12_bodyFrom_17 hl (by decide) rfl (fun ls hl => ?_)
  refine lv_goto (tgt := 3) hx hb dX12_bodyFrom_19 (by decide) ?_
  refine lv_iload hx hb dX12_bodyFrom_3 (lv_at hl 0 rfl) ?_
  refine lv_iload_n hx hb dX12_bodyFrom_5 rfl (lv_at hl 3 rfl) ?_
  refine pS hC hK hl (m_hasOwn01 l G) si_X12_360 rfl rfl (Nat.le_of_ble_eq_true rfl) ⟨Nat.le_of_ble_eq_true rfl, Nat.le_of_ble_eq_true rfl⟩ ⟨by first | exact Nat.le_of_ble_eq_true rfl | exact Nat.zero_le _, by first | exact Nat.le_of_ble_eq_true rfl | exact Nat.zero_le _⟩ dX12_bodyFrom_6 (fun r5944 hr5944 => ?_)
  obtain rfl := hr5944
  refine lv_if_ne (tgt := 22) hx hb dX12_bodyFrom_9 (by decide) (fun _ => ?_) (fun c9 => absurd c9 (by decide))
  refine lv_aload_n hx hb dX12_bodyFrom_22 rfl (lv_at hl 1 rfl) ?_
  refine lv_iload hx hb dX12_bodyFrom_23 (lv_at hl 0 rfl) ?_
  refine lv_iload_n hx hb dX12_bodyFrom_25 rfl (lv_at hl 3 rfl) ?_
  refine lv_iload_n hx hb dX12_bodyFrom_26 rfl (lv_at hl 4 rfl) ?_
  refine iV (wr := []) hC hK hl hP hD hS hA (m_body01 l G h0 xx nw nk mhasKept nt mtaped nr mrowMany mroundOf mroundFrom mouts nm mfromHour mtoHour ns mfrom mto msort misFault mdeep mcoded mlines nl nc nF np ntr nb mbestCost nso nsi nit nsh nsf nss nrc jr jd mnumber mwhose msize misParted fnrc (by omega) (by omega)) si_X12_363 [0, 1] [] rfl rfl (by decide) rfl (by decide) (by decide) rfl rfl rfl rfl rfl (Nat.le_of_ble_eq_true rfl) ⟨Nat.le_of_ble_eq_true rfl, Nat.le_of_ble_eq_true rfl⟩ ⟨Nat.le_of_ble_eq_true rfl, Nat.le_of_ble_eq_true rfl⟩ dX12_bodyFrom_27 (fun r5946 u5947 H locs hr5946 hP hD hS => ?_)
  obtain ⟨jr15948, ip15949, gtrc5950⟩ := u5947
  try dsimp only at hr5946
  have hP : va_P G.1 vwCl [(h0, .inr (12, [.ref nw, .ref nk, .int mhasKept, .ref nt, .int mtaped, .ref nr, .int mrowMany, .int mroundOf, .int mroundFrom, .int mouts, .ref nm, .int mfromHour, .int mtoHour, .ref ns, .int mfrom, .int mto, .int msort, .int misFault, .int mdeep, .int mcoded, .int mlines, .ref nl, .ref nc, .ref nF, .ref np, .ref ntr, .ref nb, .int mbestCost, .ref nso, .ref nsi, .ref nit, .ref nsh, .ref nsf, .ref nss, .ref nrc, .int (nI jr15948), .int (nI jd), .int mnumber, .int mwhose, .int msize, .int ip15949])), (nrc, .inl (G.2.1, 30, .inl gtrc5950))] H := hP
  have hD : va_D A [(h0, .inr (12, [.ref nw, .ref nk, .int mhasKept, .ref nt, .int mtaped, .ref nr, .int mrowMany, .int mroundOf, .int mroundFrom, .int mouts, .ref nm, .int mfromHour, .int mtoHour, .ref ns, .int mfrom, .int mto, .int msort, .int misFault, .int mdeep, .int mcoded, .int mlines, .ref nl, .ref nc, .ref nF, .ref np, .ref ntr, .ref nb, .int mbestCost, .ref nso, .ref nsi, .ref nit, .ref nsh, .ref nsf, .ref nss, .ref nrc, .int (nI jr15948), .int (nI jd), .int mnumber, .int mwhose, .int msize, .int ip15949])), (nrc, .inl (G.2.1, 30, .inl gtrc5950))] := hD
  obtain ⟨hr5946, w5951⟩ := hr5946
  exact RI (v := r5946) hC hP hD hS [0, 1] (jr15948, ip15949, gtrc5950) rfl rfl (by decide) (⟨trivial, by omega⟩) rfl dX12_bodyFrom_30
set_option maxHeartbeats 4000000 in
set_option maxRecDepth 100000 in
theorem m_from61 (l : Launch) (G : GG) (h0 : Nat) (xx : Int32) (nw : Nat) (nk : Nat) (mhasKept : Int32) (nt : Nat) (mtaped : Int32) (nr : Nat) (mrowMany : Int32) (mroundOf : Int32) (mroundFrom : Int32) (mouts : Int32) (nm : Nat) (mfromHour : Int32) (mtoHour : Int32) (ns : Nat) (mfrom : Int32) (mto : Int32) (msort : Int32) (misFault : Int32) (mdeep : Int32) (mcoded : Int32) (mlines : Int32) (nl : Nat) (nc : Nat) (nF : Nat) (np : Nat) (ntr : Nat) (nb : Nat) (mbestCost : Int32) (nso : Nat) (nsi : Nat) (nit : Nat) (nsh : Nat) (nsf : Nat) (nss : Nat) (nrc : Nat) (jr : Nat) (jd : Nat) (mnumber : Int32) (mwhose : Int32) (msize : Int32) (misParted : Int32) (fnrc : Nat → Int32) (hjr : jr ≤ 30) (hjd : jd < 7) : MI l G yX12_bodyFrom cX12_bodyFrom 5 (some .int) 24 0 0 [.ref h0, .int 6, .int 1, .int xx] [(h0, .inr (12, [.ref nw, .ref nk, .int mhasKept, .ref nt, .int mtaped, .ref nr, .int mrowMany, .int mroundOf, .int mroundFrom, .int mouts, .ref nm, .int mfromHour, .int mtoHour, .ref ns, .int mfrom, .int mto, .int msort, .int misFault, .int mdeep, .int mcoded, .int mlines, .ref nl, .ref nc, .ref nF, .ref np, .ref ntr, .ref nb, .int mbestCost, .ref nso, .ref nsi, .ref nit, .ref nsh, .ref nsf, .ref nss, .ref nrc, .int (nI jr), .int (nI jd), .int mnumber, .int mwhose, .int msize, .int misParted])), (nrc, .inl (G.2.1, 30, .inl fnrc))] (fun (r : Int32) (u : Nat × Int32 × (Nat → Int32)) => (True) ∧ (u.1 ≤ 30)) (fun u : Nat × Int32 × (Nat → Int32) => [(h0, .inr (12, [.ref nw, .ref nk, .int mhasKept, .ref nt, .int mtaped, .ref nr, .int mrowMany, .int mroundOf, .int mroundFrom, .int mouts, .ref nm, .int mfromHour, .int mtoHour, .ref ns, .int mfrom, .int mto, .int msort, .int misFault, .int mdeep, .int mcoded, .int mlines, .ref nl, .ref nc, .ref nF, .ref np, .ref ntr, .ref nb, .int mbestCost, .ref nso, .ref nsi, .ref nit, .ref nsh, .ref nsf, .ref nss, .ref nrc, .int (nI u.1), .int (nI jd), .int mnumber, .int mwhose, .int msize, .int u.2.1])), (nrc, .inl (G.2.1, 30, .inl u.2.2))]) := by
  refine MI.start (by decide +kernel) (Nat.le_of_ble_eq_true rfl) ?_
  intro p e s m below meth c A ls hC hK hP hD hS hA hl
  have hl : lv_has ls 5 [(0, .ref h0), (1, .int 6), (2, .int 1), (3, .int xx)] := hl
  obtain ⟨hx, hb, hr, hml, hB, hown, hlocks, hnm⟩ := id hC
  refine lv_iload_n hx hb dX12_bodyFrom_0 rfl (lv_at hl 1 rfl) ?_
  refine lv_istore (lv' := [(4, .int 6), (0, .ref h0), (1, .int 6), (2, .int 1), (3, .int xx)]) hx hb dX12_bodyFrom_1 hl (by decide) rfl (fun ls hl => ?_)
  refine lv_iload hx hb dX12_bodyFrom_3 (lv_at hl 0 rfl) ?_
  refine lv_iload_n hx hb dX12_bodyFrom_5 rfl (lv_at hl 3 rfl) ?_
  refine pS hC hK hl (m_hasOwn61 l G) si_X12_360 rfl rfl (Nat.le_of_ble_eq_true rfl) ⟨Nat.le_of_ble_eq_true rfl, Nat.le_of_ble_eq_true rfl⟩ ⟨by first | exact Nat.le_of_ble_eq_true rfl | exact Nat.zero_le _, by first | exact Nat.le_of_ble_eq_true rfl | exact Nat.zero_le _⟩ dX12_bodyFrom_6 (fun r5952 hr5952 => ?_)
  obtain rfl := hr5952
  refine lv_if_ne (tgt := 22) hx hb dX12_bodyFrom_9 (by decide) (fun c9 => absurd (by decide) c9) (fun _ => ?_)
  refine lv_iload hx hb dX12_bodyFrom_12 (lv_at hl 0 rfl) ?_
  refine pS hC hK hl (m_above6 l G) si_X12_348 rfl rfl (Nat.le_of_ble_eq_true rfl) ⟨Nat.le_of_ble_eq_true rfl, Nat.le_of_ble_eq_true rfl⟩ ⟨by first | exact Nat.le_of_ble_eq_true rfl | exact Nat.zero_le _, by first | exact Nat.le_of_ble_eq_true rfl | exact Nat.zero_le _⟩ dX12_bodyFrom_14 (fun r5954 hr5954 => ?_)
  obtain rfl := hr5954
  refine lv_istore (lv' := [(4, .int 0), (0, .ref h0), (1, .int 6), (2, .int 1), (3, .int xx)]) hx hb dX12_bodyFrom_17 hl (by decide) rfl (fun ls hl => ?_)
  refine lv_goto (tgt := 3) hx hb dX12_bodyFrom_19 (by decide) ?_
  refine lv_iload hx hb dX12_bodyFrom_3 (lv_at hl 0 rfl) ?_
  refine lv_iload_n hx hb dX12_bodyFrom_5 rfl (lv_at hl 3 rfl) ?_
  refine pS hC hK hl (m_hasOwn01 l G) si_X12_360 rfl rfl (Nat.le_of_ble_eq_true rfl) ⟨Nat.le_of_ble_eq_true rfl, Nat.le_of_ble_eq_true rfl⟩ ⟨by first | exact Nat.le_of_ble_eq_true rfl | exact Nat.zero_le _, by first | exact Nat.le_of_ble_eq_true rfl | exact Nat.zero_le _⟩ dX12_bodyFrom_6 (fun r5956 hr5956 => ?_)
  obtain rfl := hr5956
  refine lv_if_ne (tgt := 22) hx hb dX12_bodyFrom_9 (by decide) (fun _ => ?_) (fun c9 => absurd c9 (by decide))
  refine lv_aload_n hx hb dX12_bodyFrom_22 rfl (lv_at hl 1 rfl) ?_
  refine lv_iload hx hb dX12_bodyFrom_23 (lv_at hl 0 rfl) ?_
  refine lv_iload_n hx hb dX12_bodyFrom_25 rfl (lv_at hl 3 rfl) ?_
  refine lv_iload_n hx hb dX12_bodyFrom_26 rfl (lv_at hl 4 rfl) ?_
  refine iV (wr := []) hC hK hl hP hD hS hA (m_body01 l G h0 xx nw nk mhasKept nt mtaped nr mrowMany mroundOf mroundFrom mouts nm mfromHour mtoHour ns mfrom mto msort misFault mdeep mcoded mlines nl nc nF np ntr nb mbestCost nso nsi nit nsh nsf nss nrc jr jd mnumber mwhose msize misParted fnrc (by omega) (by omega)) si_X12_363 [0, 1] [] rfl rfl (by decide) rfl (by decide) (by decide) rfl rfl rfl rfl rfl (Nat.le_of_ble_eq_true rfl) ⟨Nat.le_of_ble_eq_true rfl, Nat.le_of_ble_eq_true rfl⟩ ⟨Nat.le_of_ble_eq_true rfl, Nat.le_of_ble_eq_true rfl⟩ dX12_bodyFrom_27 (fun r5958 u5959 H locs hr5958 hP hD hS => ?_)
  obtain ⟨jr15960, ip15961, gtrc5962⟩ := u5959
  try dsimp only at hr5958
  have hP : va_P G.1 vwCl [(h0, .inr (12, [.ref nw, .ref nk, .int mhasKept, .ref nt, .int mtaped, .ref nr, .int mrowMany, .int mroundOf, .int mroundFrom, .int mouts, .ref nm, .int mfromHour, .int mtoHour, .ref ns, .int mfrom, .int mto, .int msort, .int misFault, .int mdeep, .int mcoded, .int mlines, .ref nl, .ref nc, .ref nF, .ref np, .ref ntr, .ref nb, .int mbestCost, .ref nso, .ref nsi, .ref nit, .ref nsh, .ref nsf, .ref nss, .ref nrc, .int (nI jr15960), .int (nI jd), .int mnumber, .int mwhose, .int msize, .int ip15961])), (nrc, .inl (G.2.1, 30, .inl gtrc5962))] H := hP
  have hD : va_D A [(h0, .inr (12, [.ref nw, .ref nk, .int mhasKept, .ref nt, .int mtaped, .ref nr, .int mrowMany, .int mroundOf, .int mroundFrom, .int mouts, .ref nm, .int mfromHour, .int mtoHour, .ref ns, .int mfrom, .int mto, .int msort, .int misFault, .int mdeep, .int mcoded, .int mlines, .ref nl, .ref nc, .ref nF, .ref np, .ref ntr, .ref nb, .int mbestCost, .ref nso, .ref nsi, .ref nit, .ref nsh, .ref nsf, .ref nss, .ref nrc, .int (nI jr15960), .int (nI jd), .int mnumber, .int mwhose, .int msize, .int ip15961])), (nrc, .inl (G.2.1, 30, .inl gtrc5962))] := hD
  obtain ⟨hr5958, w5963⟩ := hr5958
  exact RI (v := r5958) hC hP hD hS [0, 1] (jr15960, ip15961, gtrc5962) rfl rfl (by decide) (⟨trivial, by omega⟩) rfl dX12_bodyFrom_30
set_option maxHeartbeats 4000000 in
set_option maxRecDepth 100000 in
theorem m_dealt1 (l : Launch) (G : GG) (h0 : Nat) (xx : Int32) (nw : Nat) (nk : Nat) (mhasKept : Int32) (nt : Nat) (mtaped : Int32) (nr : Nat) (mrowMany : Int32) (mroundOf : Int32) (mroundFrom : Int32) (mouts : Int32) (nm : Nat) (mfromHour : Int32) (mtoHour : Int32) (ns : Nat) (mfrom : Int32) (mto : Int32) (msort : Int32) (misFault : Int32) (mdeep : Int32) (mcoded : Int32) (mlines : Int32) (nl : Nat) (nc : Nat) (nF : Nat) (np : Nat) (ntr : Nat) (nb : Nat) (mbestCost : Int32) (nso : Nat) (nsi : Nat) (nit : Nat) (nsh : Nat) (nsf : Nat) (nss : Nat) (nrc : Nat) (jr : Nat) (jd : Nat) (mnumber : Int32) (mwhose : Int32) (msize : Int32) (misParted : Int32) (fnrc : Nat → Int32) (hjr : jr ≤ 30) (hjd : jd < 7) : MI l G yX12_dealt cX12_dealt 3 (some .int) 26 0 0 [.ref h0, .int 1, .int xx] [(h0, .inr (12, [.ref nw, .ref nk, .int mhasKept, .ref nt, .int mtaped, .ref nr, .int mrowMany, .int mroundOf, .int mroundFrom, .int mouts, .ref nm, .int mfromHour, .int mtoHour, .ref ns, .int mfrom, .int mto, .int msort, .int misFault, .int mdeep, .int mcoded, .int mlines, .ref nl, .ref nc, .ref nF, .ref np, .ref ntr, .ref nb, .int mbestCost, .ref nso, .ref nsi, .ref nit, .ref nsh, .ref nsf, .ref nss, .ref nrc, .int (nI jr), .int (nI jd), .int mnumber, .int mwhose, .int msize, .int misParted])), (nrc, .inl (G.2.1, 30, .inl fnrc))] (fun (r : Int32) (u : Nat × Int32 × (Nat → Int32)) => (True) ∧ (u.1 ≤ 30)) (fun u : Nat × Int32 × (Nat → Int32) => [(h0, .inr (12, [.ref nw, .ref nk, .int mhasKept, .ref nt, .int mtaped, .ref nr, .int mrowMany, .int mroundOf, .int mroundFrom, .int mouts, .ref nm, .int mfromHour, .int mtoHour, .ref ns, .int mfrom, .int mto, .int msort, .int misFault, .int mdeep, .int mcoded, .int mlines, .ref nl, .ref nc, .ref nF, .ref np, .ref ntr, .ref nb, .int mbestCost, .ref nso, .ref nsi, .ref nit, .ref nsh, .ref nsf, .ref nss, .ref nrc, .int (nI u.1), .int (nI jd), .int mnumber, .int mwhose, .int msize, .int u.2.1])), (nrc, .inl (G.2.1, 30, .inl u.2.2))]) := by
  refine MI.start (by decide +kernel) (Nat.le_of_ble_eq_true rfl) ?_
  intro p e s m below meth c A ls hC hK hP hD hS hA hl
  have hl : lv_has ls 3 [(0, .ref h0), (1, .int 1), (2, .int xx)] := hl
  obtain ⟨hx, hb, hr, hml, hB, hown, hlocks, hnm⟩ := id hC
  refine lv_aload_n hx hb dX12_dealt_0 rfl (lv_at hl 0 rfl) ?_
  refine lv_aload_n hx hb dX12_dealt_1 rfl (lv_at hl 0 rfl) ?_
  refine gf_X12_354 hC rfl hK hP 0 rfl rfl dX12_dealt_2 ?_
  refine lv_iload_n hx hb dX12_dealt_5 rfl (lv_at hl 1 rfl) ?_
  refine lv_iload_n hx hb dX12_dealt_6 rfl (lv_at hl 2 rfl) ?_
  rcases (show jd = 0 ∨ jd = 1 ∨ jd = 2 ∨ jd = 3 ∨ jd = 4 ∨ jd = 5 ∨ jd = 6 by omega) with rfl | rfl | rfl | rfl | rfl | rfl | rfl
  · refine iV (wr := []) hC hK hl hP hD hS hA (m_from01 l G h0 xx nw nk mhasKept nt mtaped nr mrowMany mroundOf mroundFrom mouts nm mfromHour mtoHour ns mfrom mto msort misFault mdeep mcoded mlines nl nc nF np ntr nb mbestCost nso nsi nit nsh nsf nss nrc jr 0 mnumber mwhose msize misParted fnrc (by omega) (by omega)) si_X12_357 [0, 1] [] rfl rfl (by decide) rfl (by decide) (by decide) rfl rfl rfl rfl rfl (Nat.le_of_ble_eq_true rfl) ⟨Nat.le_of_ble_eq_true rfl, Nat.le_of_ble_eq_true rfl⟩ ⟨Nat.le_of_ble_eq_true rfl, Nat.le_of_ble_eq_true rfl⟩ dX12_dealt_7 (fun r5964 u5965 H locs hr5964 hP hD hS => ?_)
    obtain ⟨jr15966, ip15967, gtrc5968⟩ := u5965
    try dsimp only at hr5964
    have hP : va_P G.1 vwCl [(h0, .inr (12, [.ref nw, .ref nk, .int mhasKept, .ref nt, .int mtaped, .ref nr, .int mrowMany, .int mroundOf, .int mroundFrom, .int mouts, .ref nm, .int mfromHour, .int mtoHour, .ref ns, .int mfrom, .int mto, .int msort, .int misFault, .int mdeep, .int mcoded, .int mlines, .ref nl, .ref nc, .ref nF, .ref np, .ref ntr, .ref nb, .int mbestCost, .ref nso, .ref nsi, .ref nit, .ref nsh, .ref nsf, .ref nss, .ref nrc, .int (nI jr15966), .int 0, .int mnumber, .int mwhose, .int msize, .int ip15967])), (nrc, .inl (G.2.1, 30, .inl gtrc5968))] H := hP
    have hD : va_D A [(h0, .inr (12, [.ref nw, .ref nk, .int mhasKept, .ref nt, .int mtaped, .ref nr, .int mrowMany, .int mroundOf, .int mroundFrom, .int mouts, .ref nm, .int mfromHour, .int mtoHour, .ref ns, .int mfrom, .int mto, .int msort, .int misFault, .int mdeep, .int mcoded, .int mlines, .ref nl, .ref nc, .ref nF, .ref np, .ref ntr, .ref nb, .int mbestCost, .ref nso, .ref nsi, .ref nit, .ref nsh, .ref nsf, .ref nss, .ref nrc, .int (nI jr15966), .int 0, .int mnumber, .int mwhose, .int msize, .int ip15967])), (nrc, .inl (G.2.1, 30, .inl gtrc5968))] := hD
    obtain ⟨hr5964, w5969⟩ := hr5964
    exact RI (v := r5964) hC hP hD hS [0, 1] (jr15966, ip15967, gtrc5968) rfl rfl (by decide) (⟨trivial, by omega⟩) rfl dX12_dealt_10
  · refine iV (wr := []) hC hK hl hP hD hS hA (m_from11 l G h0 xx nw nk mhasKept nt mtaped nr mrowMany mroundOf mroundFrom mouts nm mfromHour mtoHour ns mfrom mto msort misFault mdeep mcoded mlines nl nc nF np ntr nb mbestCost nso nsi nit nsh nsf nss nrc jr 1 mnumber mwhose msize misParted fnrc (by omega) (by omega)) si_X12_357 [0, 1] [] rfl rfl (by decide) rfl (by decide) (by decide) rfl rfl rfl rfl rfl (Nat.le_of_ble_eq_true rfl) ⟨Nat.le_of_ble_eq_true rfl, Nat.le_of_ble_eq_true rfl⟩ ⟨Nat.le_of_ble_eq_true rfl, Nat.le_of_ble_eq_true rfl⟩ dX12_dealt_7 (fun r5970 u5971 H locs hr5970 hP hD hS => ?_)
    obtain ⟨jr15972, ip15973, gtrc5974⟩ := u5971
    try dsimp only at hr5970
    have hP : va_P G.1 vwCl [(h0, .inr (12, [.ref nw, .ref nk, .int mhasKept, .ref nt, .int mtaped, .ref nr, .int mrowMany, .int mroundOf, .int mroundFrom, .int mouts, .ref nm, .int mfromHour, .int mtoHour, .ref ns, .int mfrom, .int mto, .int msort, .int misFault, .int mdeep, .int mcoded, .int mlines, .ref nl, .ref nc, .ref nF, .ref np, .ref ntr, .ref nb, .int mbestCost, .ref nso, .ref nsi, .ref nit, .ref nsh, .ref nsf, .ref nss, .ref nrc, .int (nI jr15972), .int 1, .int mnumber, .int mwhose, .int msize, .int ip15973])), (nrc, .inl (G.2.1, 30, .inl gtrc5974))] H := hP
    have hD : va_D A [(h0, .inr (12, [.ref nw, .ref nk, .int mhasKept, .ref nt, .int mtaped, .ref nr, .int mrowMany, .int mroundOf, .int mroundFrom, .int mouts, .ref nm, .int mfromHour, .int mtoHour, .ref ns, .int mfrom, .int mto, .int msort, .int misFault, .int mdeep, .int mcoded, .int mlines, .ref nl, .ref nc, .ref nF, .ref np, .ref ntr, .ref nb, .int mbestCost, .ref nso, .ref nsi, .ref nit, .ref nsh, .ref nsf, .ref nss, .ref nrc, .int (nI jr15972), .int 1, .int mnumber, .int mwhose, .int msize, .int ip15973])), (nrc, .inl (G.2.1, 30, .inl gtrc5974))] := hD
    obtain ⟨hr5970, w5975⟩ := hr5970
    exact RI (v := r5970) hC hP hD hS [0, 1] (jr15972, ip15973, gtrc5974) rfl rfl (by decide) (⟨trivial, by omega⟩) rfl dX12_dealt_10
  · refine iV (wr := []) hC hK hl hP hD hS hA (m_from21 l G h0 xx nw nk mhasKept nt mtaped nr mrowMany mroundOf mroundFrom mouts nm mfromHour mtoHour ns mfrom mto msort misFault mdeep mcoded mlines nl nc nF np ntr nb mbestCost nso nsi nit nsh nsf nss nrc jr 2 mnumber mwhose msize misParted fnrc (by omega) (by omega)) si_X12_357 [0, 1] [] rfl rfl (by decide) rfl (by decide) (by decide) rfl rfl rfl rfl rfl (Nat.le_of_ble_eq_true rfl) ⟨Nat.le_of_ble_eq_true rfl, Nat.le_of_ble_eq_true rfl⟩ ⟨Nat.le_of_ble_eq_true rfl, Nat.le_of_ble_eq_true rfl⟩ dX12_dealt_7 (fun r5976 u5977 H locs hr5976 hP hD hS => ?_)
    obtain ⟨jr15978, ip15979, gtrc5980⟩ := u5977
    try dsimp only at hr5976
    have hP : va_P G.1 vwCl [(h0, .inr (12, [.ref nw, .ref nk, .int mhasKept, .ref nt, .int mtaped, .ref nr, .int mrowMany, .int mroundOf, .int mroundFrom, .int mouts, .ref nm, .int mfromHour, .int mtoHour, .ref ns, .int mfrom, .int mto, .int msort, .int misFault, .int mdeep, .int mcoded, .int mlines, .ref nl, .ref nc, .ref nF, .ref np, .ref ntr, .ref nb, .int mbestCost, .ref nso, .ref nsi, .ref nit, .ref nsh, .ref nsf, .ref nss, .ref nrc, .int (nI jr15978), .int 2, .int mnumber, .int mwhose, .int msize, .int ip15979])), (nrc, .inl (G.2.1, 30, .inl gtrc5980))] H := hP
    have hD : va_D A [(h0, .inr (12, [.ref nw, .ref nk, .int mhasKept, .ref nt, .int mtaped, .ref nr, .int mrowMany, .int mroundOf, .int mroundFrom, .int mouts, .ref nm, .int mfromHour, .int mtoHour, .ref ns, .int mfrom, .int mto, .int msort, .int misFault, .int mdeep, .int mcoded, .int mlines, .ref nl, .ref nc, .ref nF, .ref np, .ref ntr, .ref nb, .int mbestCost, .ref nso, .ref nsi, .ref nit, .ref nsh, .ref nsf, .ref nss, .ref nrc, .int (nI jr15978), .int 2, .int mnumber, .int mwhose, .int msize, .int ip15979])), (nrc, .inl (G.2.1, 30, .inl gtrc5980))] := hD
    obtain ⟨hr5976, w5981⟩ := hr5976
    exact RI (v := r5976) hC hP hD hS [0, 1] (jr15978, ip15979, gtrc5980) rfl rfl (by decide) (⟨trivial, by omega⟩) rfl dX12_dealt_10
  · refine iV (wr := []) hC hK hl hP hD hS hA (m_from31 l G h0 xx nw nk mhasKept nt mtaped nr mrowMany mroundOf mroundFrom mouts nm mfromHour mtoHour ns mfrom mto msort misFault mdeep mcoded mlines nl nc nF np ntr nb mbestCost nso nsi nit nsh nsf nss nrc jr 3 mnumber mwhose msize misParted fnrc (by omega) (by omega)) si_X12_357 [0, 1] [] rfl rfl (by decide) rfl (by decide) (by decide) rfl rfl rfl rfl rfl (Nat.le_of_ble_eq_true rfl) ⟨Nat.le_of_ble_eq_true rfl, Nat.le_of_ble_eq_true rfl⟩ ⟨Nat.le_of_ble_eq_true rfl, Nat.le_of_ble_eq_true rfl⟩ dX12_dealt_7 (fun r5982 u5983 H locs hr5982 hP hD hS => ?_)
    obtain ⟨jr15984, ip15985, gtrc5986⟩ := u5983
    try dsimp only at hr5982
    have hP : va_P G.1 vwCl [(h0, .inr (12, [.ref nw, .ref nk, .int mhasKept, .ref nt, .int mtaped, .ref nr, .int mrowMany, .int mroundOf, .int mroundFrom, .int mouts, .ref nm, .int mfromHour, .int mtoHour, .ref ns, .int mfrom, .int mto, .int msort, .int misFault, .int mdeep, .int mcoded, .int mlines, .ref nl, .ref nc, .ref nF, .ref np, .ref ntr, .ref nb, .int mbestCost, .ref nso, .ref nsi, .ref nit, .ref nsh, .ref nsf, .ref nss, .ref nrc, .int (nI jr15984), .int 3, .int mnumber, .int mwhose, .int msize, .int ip15985])), (nrc, .inl (G.2.1, 30, .inl gtrc5986))] H := hP
    have hD : va_D A [(h0, .inr (12, [.ref nw, .ref nk, .int mhasKept, .ref nt, .int mtaped, .ref nr, .int mrowMany, .int mroundOf, .int mroundFrom, .int mouts, .ref nm, .int mfromHour, .int mtoHour, .ref ns, .int mfrom, .int mto, .int msort, .int misFault, .int mdeep, .int mcoded, .int mlines, .ref nl, .ref nc, .ref nF, .ref np, .ref ntr, .ref nb, .int mbestCost, .ref nso, .ref nsi, .ref nit, .ref nsh, .ref nsf, .ref nss, .ref nrc, .int (nI jr15984), .int 3, .int mnumber, .int mwhose, .int msize, .int ip15985])), (nrc, .inl (G.2.1, 30, .inl gtrc5986))] := hD
    obtain ⟨hr5982, w5987⟩ := hr5982
    exact RI (v := r5982) hC hP hD hS [0, 1] (jr15984, ip15985, gtrc5986) rfl rfl (by decide) (⟨trivial, by omega⟩) rfl dX12_dealt_10
  · refine iV (wr := []) hC hK hl hP hD hS hA (m_from41 l G h0 xx nw nk mhasKept nt mtaped nr mrowMany mroundOf mroundFrom mouts nm mfromHour mtoHour ns mfrom mto msort misFault mdeep mcoded mlines nl nc nF np ntr nb mbestCost nso nsi nit nsh nsf nss nrc jr 4 mnumber mwhose msize misParted fnrc (by omega) (by omega)) si_X12_357 [0, 1] [] rfl rfl (by decide) rfl (by decide) (by decide) rfl rfl rfl rfl rfl (Nat.le_of_ble_eq_true rfl) ⟨Nat.le_of_ble_eq_true rfl, Nat.le_of_ble_eq_true rfl⟩ ⟨Nat.le_of_ble_eq_true rfl, Nat.le_of_ble_eq_true rfl⟩ dX12_dealt_7 (fun r5988 u5989 H locs hr5988 hP hD hS => ?_)
    obtain ⟨jr15990, ip15991, gtrc5992⟩ := u5989
    try dsimp only at hr5988
    have hP : va_P G.1 vwCl [(h0, .inr (12, [.ref nw, .ref nk, .int mhasKept, .ref nt, .int mtaped, .ref nr, .int mrowMany, .int mroundOf, .int mroundFrom, .int mouts, .ref nm, .int mfromHour, .int mtoHour, .ref ns, .int mfrom, .int mto, .int msort, .int misFault, .int mdeep, .int mcoded, .int mlines, .ref nl, .ref nc, .ref nF, .ref np, .ref ntr, .ref nb, .int mbestCost, .ref nso, .ref nsi, .ref nit, .ref nsh, .ref nsf, .ref nss, .ref nrc, .int (nI jr15990), .int 4, .int mnumber, .int mwhose, .int msize, .int ip15991])), (nrc, .inl (G.2.1, 30, .inl gtrc5992))] H := hP
    have hD : va_D A [(h0, .inr (12, [.ref nw, .ref nk, .int mhasKept, .ref nt, .int mtaped, .ref nr, .int mrowMany, .int mroundOf, .int mroundFrom, .int mouts, .ref nm, .int mfromHour, .int mtoHour, .ref ns, .int mfrom, .int mto, .int msort, .int misFault, .int mdeep, .int mcoded, .int mlines, .ref nl, .ref nc, .ref nF, .ref np, .ref ntr, .ref nb, .int mbestCost, .ref nso, .ref nsi, .ref nit, .ref nsh, .ref nsf, .ref nss, .ref nrc, .int (nI jr15990), .int 4, .int mnumber, .int mwhose, .int msize, .int ip15991])), (nrc, .inl (G.2.1, 30, .inl gtrc5992))] := hD
    obtain ⟨hr5988, w5993⟩ := hr5988
    exact RI (v := r5988) hC hP hD hS [0, 1] (jr15990, ip15991, gtrc5992) rfl rfl (by decide) (⟨trivial, by omega⟩) rfl dX12_dealt_10
  · refine iV (wr := []) hC hK hl hP hD hS hA (m_from51 l G h0 xx nw nk mhasKept nt mtaped nr mrowMany mroundOf mroundFrom mouts nm mfromHour mtoHour ns mfrom mto msort misFault mdeep mcoded mlines nl nc nF np ntr nb mbestCost nso nsi nit nsh nsf nss nrc jr 5 mnumber mwhose msize misParted fnrc (by omega) (by omega)) si_X12_357 [0, 1] [] rfl rfl (by decide) rfl (by decide) (by decide) rfl rfl rfl rfl rfl (Nat.le_of_ble_eq_true rfl) ⟨Nat.le_of_ble_eq_true rfl, Nat.le_of_ble_eq_true rfl⟩ ⟨Nat.le_of_ble_eq_true rfl, Nat.le_of_ble_eq_true rfl⟩ dX12_dealt_7 (fun r5994 u5995 H locs hr5994 hP hD hS => ?_)
    obtain ⟨jr15996, ip15997, gtrc5998⟩ := u5995
    try dsimp only at hr5994
    have hP : va_P G.1 vwCl [(h0, .inr (12, [.ref nw, .ref nk, .int mhasKept, .ref nt, .int mtaped, .ref nr, .int mrowMany, .int mroundOf, .int mroundFrom, .int mouts, .ref nm, .int mfromHour, .int mtoHour, .ref ns, .int mfrom, .int mto, .int msort, .int misFault, .int mdeep, .int mcoded, .int mlines, .ref nl, .ref nc, .ref nF, .ref np, .ref ntr, .ref nb, .int mbestCost, .ref nso, .ref nsi, .ref nit, .ref nsh, .ref nsf, .ref nss, .ref nrc, .int (nI jr15996), .int 5, .int mnumber, .int mwhose, .int msize, .int ip15997])), (nrc, .inl (G.2.1, 30, .inl gtrc5998))] H := hP
    have hD : va_D A [(h0, .inr (12, [.ref nw, .ref nk, .int mhasKept, .ref nt, .int mtaped, .ref nr, .int mrowMany, .int mroundOf, .int mroundFrom, .int mouts, .ref nm, .int mfromHour, .int mtoHour, .ref ns, .int mfrom, .int mto, .int msort, .int misFault, .int mdeep, .int mcoded, .int mlines, .ref nl, .ref nc, .ref nF, .ref np, .ref ntr, .ref nb, .int mbestCost, .ref nso, .ref nsi, .ref nit, .ref nsh, .ref nsf, .ref nss, .ref nrc, .int (nI jr15996), .int 5, .int mnumber, .int mwhose, .int msize, .int ip15997])), (nrc, .inl (G.2.1, 30, .inl gtrc5998))] := hD
    obtain ⟨hr5994, w5999⟩ := hr5994
    exact RI (v := r5994) hC hP hD hS [0, 1] (jr15996, ip15997, gtrc5998) rfl rfl (by decide) (⟨trivial, by omega⟩) rfl dX12_dealt_10
  · refine iV (wr := []) hC hK hl hP hD hS hA (m_from61 l G h0 xx nw nk mhasKept nt mtaped nr mrowMany mroundOf mroundFrom mouts nm mfromHour mtoHour ns mfrom mto msort misFault mdeep mcoded mlines nl nc nF np ntr nb mbestCost nso nsi nit nsh nsf nss nrc jr 6 mnumber mwhose msize misParted fnrc (by omega) (by omega)) si_X12_357 [0, 1] [] rfl rfl (by decide) rfl (by decide) (by decide) rfl rfl rfl rfl rfl (Nat.le_of_ble_eq_true rfl) ⟨Nat.le_of_ble_eq_true rfl, Nat.le_of_ble_eq_true rfl⟩ ⟨Nat.le_of_ble_eq_true rfl, Nat.le_of_ble_eq_true rfl⟩ dX12_dealt_7 (fun r6000 u6001 H locs hr6000 hP hD hS => ?_)
    obtain ⟨jr16002, ip16003, gtrc6004⟩ := u6001
    try dsimp only at hr6000
    have hP : va_P G.1 vwCl [(h0, .inr (12, [.ref nw, .ref nk, .int mhasKept, .ref nt, .int mtaped, .ref nr, .int mrowMany, .int mroundOf, .int mroundFrom, .int mouts, .ref nm, .int mfromHour, .int mtoHour, .ref ns, .int mfrom, .int mto, .int msort, .int misFault, .int mdeep, .int mcoded, .int mlines, .ref nl, .ref nc, .ref nF, .ref np, .ref ntr, .ref nb, .int mbestCost, .ref nso, .ref nsi, .ref nit, .ref nsh, .ref nsf, .ref nss, .ref nrc, .int (nI jr16002), .int 6, .int mnumber, .int mwhose, .int msize, .int ip16003])), (nrc, .inl (G.2.1, 30, .inl gtrc6004))] H := hP
    have hD : va_D A [(h0, .inr (12, [.ref nw, .ref nk, .int mhasKept, .ref nt, .int mtaped, .ref nr, .int mrowMany, .int mroundOf, .int mroundFrom, .int mouts, .ref nm, .int mfromHour, .int mtoHour, .ref ns, .int mfrom, .int mto, .int msort, .int misFault, .int mdeep, .int mcoded, .int mlines, .ref nl, .ref nc, .ref nF, .ref np, .ref ntr, .ref nb, .int mbestCost, .ref nso, .ref nsi, .ref nit, .ref nsh, .ref nsf, .ref nss, .ref nrc, .int (nI jr16002), .int 6, .int mnumber, .int mwhose, .int msize, .int ip16003])), (nrc, .inl (G.2.1, 30, .inl gtrc6004))] := hD
    obtain ⟨hr6000, w6005⟩ := hr6000
    exact RI (v := r6000) hC hP hD hS [0, 1] (jr16002, ip16003, gtrc6004) rfl rfl (by decide) (⟨trivial, by omega⟩) rfl dX12_dealt_10
set_option maxHeartbeats 4000000 in
set_option maxRecDepth 100000 in
theorem m_body02 (l : Launch) (G : GG) (h0 : Nat) (xx : Int32) (nw : Nat) (nk : Nat) (mhasKept : Int32) (nt : Nat) (mtaped : Int32) (nr : Nat) (mrowMany : Int32) (mroundOf : Int32) (mroundFrom : Int32) (mouts : Int32) (nm : Nat) (mfromHour : Int32) (mtoHour : Int32) (ns : Nat) (mfrom : Int32) (mto : Int32) (msort : Int32) (misFault : Int32) (mdeep : Int32) (mcoded : Int32) (mlines : Int32) (nl : Nat) (nc : Nat) (nF : Nat) (np : Nat) (ntr : Nat) (nb : Nat) (mbestCost : Int32) (nso : Nat) (nsi : Nat) (nit : Nat) (nsh : Nat) (nsf : Nat) (nss : Nat) (nrc : Nat) (jr : Nat) (jd : Nat) (mnumber : Int32) (mwhose : Int32) (msize : Int32) (misParted : Int32) (fnrc : Nat → Int32) (hjr : jr ≤ 30) (hjd : jd < 7) : MI l G yX12_body cX12_body 6 (some .int) 27 0 0 [.ref h0, .int 0, .int 2, .int xx] [(h0, .inr (12, [.ref nw, .ref nk, .int mhasKept, .ref nt, .int mtaped, .ref nr, .int mrowMany, .int mroundOf, .int mroundFrom, .int mouts, .ref nm, .int mfromHour, .int mtoHour, .ref ns, .int mfrom, .int mto, .int msort, .int misFault, .int mdeep, .int mcoded, .int mlines, .ref nl, .ref nc, .ref nF, .ref np, .ref ntr, .ref nb, .int mbestCost, .ref nso, .ref nsi, .ref nit, .ref nsh, .ref nsf, .ref nss, .ref nrc, .int (nI jr), .int (nI jd), .int mnumber, .int mwhose, .int msize, .int misParted])), (nrc, .inl (G.2.1, 30, .inl fnrc))] (fun (r : Int32) (u : Nat × Int32 × (Nat → Int32)) => (True) ∧ (u.1 ≤ 30)) (fun u : Nat × Int32 × (Nat → Int32) => [(h0, .inr (12, [.ref nw, .ref nk, .int mhasKept, .ref nt, .int mtaped, .ref nr, .int mrowMany, .int mroundOf, .int mroundFrom, .int mouts, .ref nm, .int mfromHour, .int mtoHour, .ref ns, .int mfrom, .int mto, .int msort, .int misFault, .int mdeep, .int mcoded, .int mlines, .ref nl, .ref nc, .ref nF, .ref np, .ref ntr, .ref nb, .int mbestCost, .ref nso, .ref nsi, .ref nit, .ref nsh, .ref nsf, .ref nss, .ref nrc, .int (nI u.1), .int (nI jd), .int mnumber, .int mwhose, .int msize, .int u.2.1])), (nrc, .inl (G.2.1, 30, .inl u.2.2))]) := by
  refine MI.start (by decide +kernel) (Nat.le_of_ble_eq_true rfl) ?_
  intro p e s m below meth c A ls hC hK hP hD hS hA hl
  have hl : lv_has ls 6 [(0, .ref h0), (1, .int 0), (2, .int 2), (3, .int xx)] := hl
  obtain ⟨hx, hb, hr, hml, hB, hown, hlocks, hnm⟩ := id hC
  refine lv_iconst (v := 4) hx hb dX12_body_0 (by decide) ?_
  refine lv_iload_n hx hb dX12_body_1 rfl (lv_at hl 1 rfl) ?_
  refine lv_imul hx hb dX12_body_2 ?_
  refine eqi (x1 := 0) (by decide) ?_
  refine lv_iload_n hx hb dX12_body_3 rfl (lv_at hl 2 rfl) ?_
  refine lv_iadd hx hb dX12_body_4 ?_
  refine eqi (x1 := 2) (by decide) ?_
  refine lv_tableIn (tgt := 140) hx hb dX12_body_5 (by decide) (by decide) rfl (by decide) ?_
  refine lv_aload_n hx hb dX12_body_140 rfl (lv_at hl 0 rfl) ?_
  refine lv_bipush (v := 12) hx hb dX12_body_141 (by decide) ?_
  refine vV (wr := []) hC hK hl hP hD hS hA (m_began l G h0 12 nw nk mhasKept nt mtaped nr mrowMany mroundOf mroundFrom mouts nm mfromHour mtoHour ns mfrom mto msort misFault mdeep mcoded mlines nl nc nF np ntr nb mbestCost nso nsi nit nsh nsf nss nrc jr (nI jd) mnumber mwhose msize misParted fnrc (by omega)) si_X12_366 [0, 1] [] rfl rfl (by decide) rfl (by decide) (by decide) rfl rfl rfl rfl rfl (Nat.le_of_ble_eq_true rfl) ⟨Nat.le_of_ble_eq_true rfl, Nat.le_of_ble_eq_true rfl⟩ ⟨Nat.le_of_ble_eq_true rfl, Nat.le_of_ble_eq_true rfl⟩ dX12_body_143 (fun u6007 H locs hr6006 hP hD hS => ?_)
  obtain ⟨jr16008, gtrc6009⟩ := u6007
  try dsimp only at hr6006
  have hP : va_P G.1 vwCl [(h0, .inr (12, [.ref nw, .ref nk, .int mhasKept, .ref nt, .int mtaped, .ref nr, .int mrowMany, .int mroundOf, .int mroundFrom, .int mouts, .ref nm, .int mfromHour, .int mtoHour, .ref ns, .int mfrom, .int mto, .int msort, .int misFault, .int mdeep, .int mcoded, .int mlines, .ref nl, .ref nc, .ref nF, .ref np, .ref ntr, .ref nb, .int mbestCost, .ref nso, .ref nsi, .ref nit, .ref nsh, .ref nsf, .ref nss, .ref nrc, .int (nI jr16008), .int (nI jd), .int mnumber, .int mwhose, .int msize, .int misParted])), (nrc, .inl (G.2.1, 30, .inl gtrc6009))] H := hP
  have hD : va_D A [(h0, .inr (12, [.ref nw, .ref nk, .int mhasKept, .ref nt, .int mtaped, .ref nr, .int mrowMany, .int mroundOf, .int mroundFrom, .int mouts, .ref nm, .int mfromHour, .int mtoHour, .ref ns, .int mfrom, .int mto, .int msort, .int misFault, .int mdeep, .int mcoded, .int mlines, .ref nl, .ref nc, .ref nF, .ref np, .ref ntr, .ref nb, .int mbestCost, .ref nso, .ref nsi, .ref nit, .ref nsh, .ref nsf, .ref nss, .ref nrc, .int (nI jr16008), .int (nI jd), .int mnumber, .int mwhose, .int msize, .int misParted])), (nrc, .inl (G.2.1, 30, .inl gtrc6009))] := hD
  have w6010 := hr6006
  refine lv_aload_n hx hb dX12_body_146 rfl (lv_at hl 0 rfl) ?_
  refine lv_iconst (v := 1) hx hb dX12_body_147 (by decide) ?_
  refine lv_iload_n hx hb dX12_body_148 rfl (lv_at hl 3 rfl) ?_
  refine iV (wr := []) hC hK hl hP hD hS hA (m_dealt1 l G h0 xx nw nk mhasKept nt mtaped nr mrowMany mroundOf mroundFrom mouts nm mfromHour mtoHour ns mfrom mto msort misFault mdeep mcoded mlines nl nc nF np ntr nb mbestCost nso nsi nit nsh nsf nss nrc jr16008 jd mnumber mwhose msize misParted gtrc6009 (by omega) (by omega)) si_X12_372 [0, 1] [] rfl rfl (by decide) rfl (by decide) (by decide) rfl rfl rfl rfl rfl (Nat.le_of_ble_eq_true rfl) ⟨Nat.le_of_ble_eq_true rfl, Nat.le_of_ble_eq_true rfl⟩ ⟨Nat.le_of_ble_eq_true rfl, Nat.le_of_ble_eq_true rfl⟩ dX12_body_149 (fun r6011 u6012 H locs hr6011 hP hD hS => ?_)
  obtain ⟨jr16013, ip16014, gtrc6015⟩ := u6012
  try dsimp only at hr6011
  have hP : va_P G.1 vwCl [(h0, .inr (12, [.ref nw, .ref nk, .int mhasKept, .ref nt, .int mtaped, .ref nr, .int mrowMany, .int mroundOf, .int mroundFrom, .int mouts, .ref nm, .int mfromHour, .int mtoHour, .ref ns, .int mfrom, .int mto, .int msort, .int misFault, .int mdeep, .int mcoded, .int mlines, .ref nl, .ref nc, .ref nF, .ref np, .ref ntr, .ref nb, .int mbestCost, .ref nso, .ref nsi, .ref nit, .ref nsh, .ref nsf, .ref nss, .ref nrc, .int (nI jr16013), .int (nI jd), .int mnumber, .int mwhose, .int msize, .int ip16014])), (nrc, .inl (G.2.1, 30, .inl gtrc6015))] H := hP
  have hD : va_D A [(h0, .inr (12, [.ref nw, .ref nk, .int mhasKept, .ref nt, .int mtaped, .ref nr, .int mrowMany, .int mroundOf, .int mroundFrom, .int mouts, .ref nm, .int mfromHour, .int mtoHour, .ref ns, .int mfrom, .int mto, .int msort, .int misFault, .int mdeep, .int mcoded, .int mlines, .ref nl, .ref nc, .ref nF, .ref np, .ref ntr, .ref nb, .int mbestCost, .ref nso, .ref nsi, .ref nit, .ref nsh, .ref nsf, .ref nss, .ref nrc, .int (nI jr16013), .int (nI jd), .int mnumber, .int mwhose, .int msize, .int ip16014])), (nrc, .inl (G.2.1, 30, .inl gtrc6015))] := hD
  obtain ⟨hr6011, w6016⟩ := hr6011
  refine lv_aload_n hx hb dX12_body_152 rfl (lv_at hl 0 rfl) ?_
  refine gf_X12_375 hC rfl hK hP 0 rfl rfl dX12_body_153 ?_
  refine lv_isub hx hb dX12_body_156 ?_
  exact RI (v := r6011 - mwhose) hC hP hD hS [0, 1] (jr16013, ip16014, gtrc6015) rfl rfl (by decide) (⟨trivial, by omega⟩) rfl dX12_body_157
set_option maxHeartbeats 4000000 in
set_option maxRecDepth 100000 in
theorem m_from02 (l : Launch) (G : GG) (h0 : Nat) (xx : Int32) (nw : Nat) (nk : Nat) (mhasKept : Int32) (nt : Nat) (mtaped : Int32) (nr : Nat) (mrowMany : Int32) (mroundOf : Int32) (mroundFrom : Int32) (mouts : Int32) (nm : Nat) (mfromHour : Int32) (mtoHour : Int32) (ns : Nat) (mfrom : Int32) (mto : Int32) (msort : Int32) (misFault : Int32) (mdeep : Int32) (mcoded : Int32) (mlines : Int32) (nl : Nat) (nc : Nat) (nF : Nat) (np : Nat) (ntr : Nat) (nb : Nat) (mbestCost : Int32) (nso : Nat) (nsi : Nat) (nit : Nat) (nsh : Nat) (nsf : Nat) (nss : Nat) (nrc : Nat) (jr : Nat) (jd : Nat) (mnumber : Int32) (mwhose : Int32) (msize : Int32) (misParted : Int32) (fnrc : Nat → Int32) (hjr : jr ≤ 30) (hjd : jd < 7) : MI l G yX12_bodyFrom cX12_bodyFrom 5 (some .int) 28 0 0 [.ref h0, .int 0, .int 2, .int xx] [(h0, .inr (12, [.ref nw, .ref nk, .int mhasKept, .ref nt, .int mtaped, .ref nr, .int mrowMany, .int mroundOf, .int mroundFrom, .int mouts, .ref nm, .int mfromHour, .int mtoHour, .ref ns, .int mfrom, .int mto, .int msort, .int misFault, .int mdeep, .int mcoded, .int mlines, .ref nl, .ref nc, .ref nF, .ref np, .ref ntr, .ref nb, .int mbestCost, .ref nso, .ref nsi, .ref nit, .ref nsh, .ref nsf, .ref nss, .ref nrc, .int (nI jr), .int (nI jd), .int mnumber, .int mwhose, .int msize, .int misParted])), (nrc, .inl (G.2.1, 30, .inl fnrc))] (fun (r : Int32) (u : Nat × Int32 × (Nat → Int32)) => (True) ∧ (u.1 ≤ 30)) (fun u : Nat × Int32 × (Nat → Int32) => [(h0, .inr (12, [.ref nw, .ref nk, .int mhasKept, .ref nt, .int mtaped, .ref nr, .int mrowMany, .int mroundOf, .int mroundFrom, .int mouts, .ref nm, .int mfromHour, .int mtoHour, .ref ns, .int mfrom, .int mto, .int msort, .int misFault, .int mdeep, .int mcoded, .int mlines, .ref nl, .ref nc, .ref nF, .ref np, .ref ntr, .ref nb, .int mbestCost, .ref nso, .ref nsi, .ref nit, .ref nsh, .ref nsf, .ref nss, .ref nrc, .int (nI u.1), .int (nI jd), .int mnumber, .int mwhose, .int msize, .int u.2.1])), (nrc, .inl (G.2.1, 30, .inl u.2.2))]) := by
  refine MI.start (by decide +kernel) (Nat.le_of_ble_eq_true rfl) ?_
  intro p e s m below meth c A ls hC hK hP hD hS hA hl
  have hl : lv_has ls 5 [(0, .ref h0), (1, .int 0), (2, .int 2), (3, .int xx)] := hl
  obtain ⟨hx, hb, hr, hml, hB, hown, hlocks, hnm⟩ := id hC
  refine lv_iload_n hx hb dX12_bodyFrom_0 rfl (lv_at hl 1 rfl) ?_
  refine lv_istore (lv' := [(4, .int 0), (0, .ref h0), (1, .int 0), (2, .int 2), (3, .int xx)]) hx hb dX12_bodyFrom_1 hl (by decide) rfl (fun ls hl => ?_)
  refine lv_iload hx hb dX12_bodyFrom_3 (lv_at hl 0 rfl) ?_
  refine lv_iload_n hx hb dX12_bodyFrom_5 rfl (lv_at hl 3 rfl) ?_
  refine pS hC hK hl (m_hasOwn02 l G) si_X12_360 rfl rfl (Nat.le_of_ble_eq_true rfl) ⟨Nat.le_of_ble_eq_true rfl, Nat.le_of_ble_eq_true rfl⟩ ⟨by first | exact Nat.le_of_ble_eq_true rfl | exact Nat.zero_le _, by first | exact Nat.le_of_ble_eq_true rfl | exact Nat.zero_le _⟩ dX12_bodyFrom_6 (fun r6017 hr6017 => ?_)
  obtain rfl := hr6017
  refine lv_if_ne (tgt := 22) hx hb dX12_bodyFrom_9 (by decide) (fun _ => ?_) (fun c9 => absurd c9 (by decide))
  refine lv_aload_n hx hb dX12_bodyFrom_22 rfl (lv_at hl 1 rfl) ?_
  refine lv_iload hx hb dX12_bodyFrom_23 (lv_at hl 0 rfl) ?_
  refine lv_iload_n hx hb dX12_bodyFrom_25 rfl (lv_at hl 3 rfl) ?_
  refine lv_iload_n hx hb dX12_bodyFrom_26 rfl (lv_at hl 4 rfl) ?_
  refine iV (wr := []) hC hK hl hP hD hS hA (m_body02 l G h0 xx nw nk mhasKept nt mtaped nr mrowMany mroundOf mroundFrom mouts nm mfromHour mtoHour ns mfrom mto msort misFault mdeep mcoded mlines nl nc nF np ntr nb mbestCost nso nsi nit nsh nsf nss nrc jr jd mnumber mwhose msize misParted fnrc (by omega) (by omega)) si_X12_363 [0, 1] [] rfl rfl (by decide) rfl (by decide) (by decide) rfl rfl rfl rfl rfl (Nat.le_of_ble_eq_true rfl) ⟨Nat.le_of_ble_eq_true rfl, Nat.le_of_ble_eq_true rfl⟩ ⟨Nat.le_of_ble_eq_true rfl, Nat.le_of_ble_eq_true rfl⟩ dX12_bodyFrom_27 (fun r6019 u6020 H locs hr6019 hP hD hS => ?_)
  obtain ⟨jr16021, ip16022, gtrc6023⟩ := u6020
  try dsimp only at hr6019
  have hP : va_P G.1 vwCl [(h0, .inr (12, [.ref nw, .ref nk, .int mhasKept, .ref nt, .int mtaped, .ref nr, .int mrowMany, .int mroundOf, .int mroundFrom, .int mouts, .ref nm, .int mfromHour, .int mtoHour, .ref ns, .int mfrom, .int mto, .int msort, .int misFault, .int mdeep, .int mcoded, .int mlines, .ref nl, .ref nc, .ref nF, .ref np, .ref ntr, .ref nb, .int mbestCost, .ref nso, .ref nsi, .ref nit, .ref nsh, .ref nsf, .ref nss, .ref nrc, .int (nI jr16021), .int (nI jd), .int mnumber, .int mwhose, .int msize, .int ip16022])), (nrc, .inl (G.2.1, 30, .inl gtrc6023))] H := hP
  have hD : va_D A [(h0, .inr (12, [.ref nw, .ref nk, .int mhasKept, .ref nt, .int mtaped, .ref nr, .int mrowMany, .int mroundOf, .int mroundFrom, .int mouts, .ref nm, .int mfromHour, .int mtoHour, .ref ns, .int mfrom, .int mto, .int msort, .int misFault, .int mdeep, .int mcoded, .int mlines, .ref nl, .ref nc, .ref nF, .ref np, .ref ntr, .ref nb, .int mbestCost, .ref nso, .ref nsi, .ref nit, .ref nsh, .ref nsf, .ref nss, .ref nrc, .int (nI jr16021), .int (nI jd), .int mnumber, .int mwhose, .int msize, .int ip16022])), (nrc, .inl (G.2.1, 30, .inl gtrc6023))] := hD
  obtain ⟨hr6019, w6024⟩ := hr6019
  exact RI (v := r6019) hC hP hD hS [0, 1] (jr16021, ip16022, gtrc6023) rfl rfl (by decide) (⟨trivial, by omega⟩) rfl dX12_bodyFrom_30
set_option maxHeartbeats 4000000 in
set_option maxRecDepth 100000 in
theorem m_body22 (l : Launch) (G : GG) (h0 : Nat) (xx : Int32) (nw : Nat) (nk : Nat) (mhasKept : Int32) (nt : Nat) (mtaped : Int32) (nr : Nat) (mrowMany : Int32) (mroundOf : Int32) (mroundFrom : Int32) (mouts : Int32) (nm : Nat) (mfromHour : Int32) (mtoHour : Int32) (ns : Nat) (mfrom : Int32) (mto : Int32) (msort : Int32) (misFault : Int32) (mdeep : Int32) (mcoded : Int32) (mlines : Int32) (nl : Nat) (nc : Nat) (nF : Nat) (np : Nat) (ntr : Nat) (nb : Nat) (mbestCost : Int32) (nso : Nat) (nsi : Nat) (nit : Nat) (nsh : Nat) (nsf : Nat) (nss : Nat) (nrc : Nat) (jr : Nat) (jd : Nat) (mnumber : Int32) (mwhose : Int32) (msize : Int32) (misParted : Int32) (fnrc : Nat → Int32) (hjr : jr ≤ 30) (hjd : jd < 7) : MI l G yX12_body cX12_body 6 (some .int) 29 0 0 [.ref h0, .int 2, .int 2, .int xx] [(h0, .inr (12, [.ref nw, .ref nk, .int mhasKept, .ref nt, .int mtaped, .ref nr, .int mrowMany, .int mroundOf, .int mroundFrom, .int mouts, .ref nm, .int mfromHour, .int mtoHour, .ref ns, .int mfrom, .int mto, .int msort, .int misFault, .int mdeep, .int mcoded, .int mlines, .ref nl, .ref nc, .ref nF, .ref np, .ref ntr, .ref nb, .int mbestCost, .ref nso, .ref nsi, .ref nit, .ref nsh, .ref nsf, .ref nss, .ref nrc, .int (nI jr), .int (nI jd), .int mnumber, .int mwhose, .int msize, .int misParted])), (nrc, .inl (G.2.1, 30, .inl fnrc))] (fun (r : Int32) (u : Nat × Int32 × (Nat → Int32)) => (True) ∧ (u.1 ≤ 30)) (fun u : Nat × Int32 × (Nat → Int32) => [(h0, .inr (12, [.ref nw, .ref nk, .int mhasKept, .ref nt, .int mtaped, .ref nr, .int mrowMany, .int mroundOf, .int mroundFrom, .int mouts, .ref nm, .int mfromHour, .int mtoHour, .ref ns, .int mfrom, .int mto, .int msort, .int misFault, .int mdeep, .int mcoded, .int mlines, .ref nl, .ref nc, .ref nF, .ref np, .ref ntr, .ref nb, .int mbestCost, .ref nso, .ref nsi, .ref nit, .ref nsh, .ref nsf, .ref nss, .ref nrc, .int (nI u.1), .int (nI jd), .int mnumber, .int mwhose, .int msize, .int u.2.1])), (nrc, .inl (G.2.1, 30, .inl u.2.2))]) := by
  refine MI.start (by decide +kernel) (Nat.le_of_ble_eq_true rfl) ?_
  intro p e s m below meth c A ls hC hK hP hD hS hA hl
  have hl : lv_has ls 6 [(0, .ref h0), (1, .int 2), (2, .int 2), (3, .int xx)] := hl
  obtain ⟨hx, hb, hr, hml, hB, hown, hlocks, hnm⟩ := id hC
  refine lv_iconst (v := 4) hx hb dX12_body_0 (by decide) ?_
  refine lv_iload_n hx hb dX12_body_1 rfl (lv_at hl 1 rfl) ?_
  refine lv_imul hx hb dX12_body_2 ?_
  refine eqi (x1 := 8) (by decide) ?_
  refine lv_iload_n hx hb dX12_body_3 rfl (lv_at hl 2 rfl) ?_
  refine lv_iadd hx hb dX12_body_4 ?_
  refine eqi (x1 := 10) (by decide) ?_
  refine lv_tableIn (tgt := 226) hx hb dX12_body_5 (by decide) (by decide) rfl (by decide) ?_
  refine lv_aload_n hx hb dX12_body_226 rfl (lv_at hl 0 rfl) ?_
  refine lv_bipush (v := 30) hx hb dX12_body_227 (by decide) ?_
  refine vV (wr := []) hC hK hl hP hD hS hA (m_began l G h0 30 nw nk mhasKept nt mtaped nr mrowMany mroundOf mroundFrom mouts nm mfromHour mtoHour ns mfrom mto msort misFault mdeep mcoded mlines nl nc nF np ntr nb mbestCost nso nsi nit nsh nsf nss nrc jr (nI jd) mnumber mwhose msize misParted fnrc (by omega)) si_X12_366 [0, 1] [] rfl rfl (by decide) rfl (by decide) (by decide) rfl rfl rfl rfl rfl (Nat.le_of_ble_eq_true rfl) ⟨Nat.le_of_ble_eq_true rfl, Nat.le_of_ble_eq_true rfl⟩ ⟨Nat.le_of_ble_eq_true rfl, Nat.le_of_ble_eq_true rfl⟩ dX12_body_229 (fun u6026 H locs hr6025 hP hD hS => ?_)
  obtain ⟨jr16027, gtrc6028⟩ := u6026
  try dsimp only at hr6025
  have hP : va_P G.1 vwCl [(h0, .inr (12, [.ref nw, .ref nk, .int mhasKept, .ref nt, .int mtaped, .ref nr, .int mrowMany, .int mroundOf, .int mroundFrom, .int mouts, .ref nm, .int mfromHour, .int mtoHour, .ref ns, .int mfrom, .int mto, .int msort, .int misFault, .int mdeep, .int mcoded, .int mlines, .ref nl, .ref nc, .ref nF, .ref np, .ref ntr, .ref nb, .int mbestCost, .ref nso, .ref nsi, .ref nit, .ref nsh, .ref nsf, .ref nss, .ref nrc, .int (nI jr16027), .int (nI jd), .int mnumber, .int mwhose, .int msize, .int misParted])), (nrc, .inl (G.2.1, 30, .inl gtrc6028))] H := hP
  have hD : va_D A [(h0, .inr (12, [.ref nw, .ref nk, .int mhasKept, .ref nt, .int mtaped, .ref nr, .int mrowMany, .int mroundOf, .int mroundFrom, .int mouts, .ref nm, .int mfromHour, .int mtoHour, .ref ns, .int mfrom, .int mto, .int msort, .int misFault, .int mdeep, .int mcoded, .int mlines, .ref nl, .ref nc, .ref nF, .ref np, .ref ntr, .ref nb, .int mbestCost, .ref nso, .ref nsi, .ref nit, .ref nsh, .ref nsf, .ref nss, .ref nrc, .int (nI jr16027), .int (nI jd), .int mnumber, .int mwhose, .int msize, .int misParted])), (nrc, .inl (G.2.1, 30, .inl gtrc6028))] := hD
  have w6029 := hr6025
  refine lv_aload_n hx hb dX12_body_232 rfl (lv_at hl 0 rfl) ?_
  refine lv_iconst (v := 0) hx hb dX12_body_233 (by decide) ?_
  refine lv_iconst (v := 2) hx hb dX12_body_234 (by decide) ?_
  refine lv_iload_n hx hb dX12_body_235 rfl (lv_at hl 3 rfl) ?_
  refine iV (wr := []) hC hK hl hP hD hS hA (m_from02 l G h0 xx nw nk mhasKept nt mtaped nr mrowMany mroundOf mroundFrom mouts nm mfromHour mtoHour ns mfrom mto msort misFault mdeep mcoded mlines nl nc nF np ntr nb mbestCost nso nsi nit nsh nsf nss nrc jr16027 jd mnumber mwhose msize misParted gtrc6028 (by omega) (by omega)) si_X12_357 [0, 1] [] rfl rfl (by decide) rfl (by decide) (by decide) rfl rfl rfl rfl rfl (Nat.le_of_ble_eq_true rfl) ⟨Nat.le_of_ble_eq_true rfl, Nat.le_of_ble_eq_true rfl⟩ ⟨Nat.le_of_ble_eq_true rfl, Nat.le_of_ble_eq_true rfl⟩ dX12_body_236 (fun r6030 u6031 H locs hr6030 hP hD hS => ?_)
  obtain ⟨jr16032, ip16033, gtrc6034⟩ := u6031
  try dsimp only at hr6030
  have hP : va_P G.1 vwCl [(h0, .inr (12, [.ref nw, .ref nk, .int mhasKept, .ref nt, .int mtaped, .ref nr, .int mrowMany, .int mroundOf, .int mroundFrom, .int mouts, .ref nm, .int mfromHour, .int mtoHour, .ref ns, .int mfrom, .int mto, .int msort, .int misFault, .int mdeep, .int mcoded, .int mlines, .ref nl, .ref nc, .ref nF, .ref np, .ref ntr, .ref nb, .int mbestCost, .ref nso, .ref nsi, .ref nit, .ref nsh, .ref nsf, .ref nss, .ref nrc, .int (nI jr16032), .int (nI jd), .int mnumber, .int mwhose, .int msize, .int ip16033])), (nrc, .inl (G.2.1, 30, .inl gtrc6034))] H := hP
  have hD : va_D A [(h0, .inr (12, [.ref nw, .ref nk, .int mhasKept, .ref nt, .int mtaped, .ref nr, .int mrowMany, .int mroundOf, .int mroundFrom, .int mouts, .ref nm, .int mfromHour, .int mtoHour, .ref ns, .int mfrom, .int mto, .int msort, .int misFault, .int mdeep, .int mcoded, .int mlines, .ref nl, .ref nc, .ref nF, .ref np, .ref ntr, .ref nb, .int mbestCost, .ref nso, .ref nsi, .ref nit, .ref nsh, .ref nsf, .ref nss, .ref nrc, .int (nI jr16032), .int (nI jd), .int mnumber, .int mwhose, .int msize, .int ip16033])), (nrc, .inl (G.2.1, 30, .inl gtrc6034))] := hD
  obtain ⟨hr6030, w6035⟩ := hr6030
  refine lv_iconst (v := 3) hx hb dX12_body_239 (by decide) ?_
  refine lv_imul hx hb dX12_body_240 ?_
  exact RI (v := r6030 * 3) hC hP hD hS [0, 1] (jr16032, ip16033, gtrc6034) rfl rfl (by decide) (⟨trivial, by omega⟩) rfl dX12_body_241
set_option maxHeartbeats 4000000 in
set_option maxRecDepth 100000 in
theorem m_from22 (l : Launch) (G : GG) (h0 : Nat) (xx : Int32) (nw : Nat) (nk : Nat) (mhasKept : Int32) (nt : Nat) (mtaped : Int32) (nr : Nat) (mrowMany : Int32) (mroundOf : Int32) (mroundFrom : Int32) (mouts : Int32) (nm : Nat) (mfromHour : Int32) (mtoHour : Int32) (ns : Nat) (mfrom : Int32) (mto : Int32) (msort : Int32) (misFault : Int32) (mdeep : Int32) (mcoded : Int32) (mlines : Int32) (nl : Nat) (nc : Nat) (nF : Nat) (np : Nat) (ntr : Nat) (nb : Nat) (mbestCost : Int32) (nso : Nat) (nsi : Nat) (nit : Nat) (nsh : Nat) (nsf : Nat) (nss : Nat) (nrc : Nat) (jr : Nat) (jd : Nat) (mnumber : Int32) (mwhose : Int32) (msize : Int32) (misParted : Int32) (fnrc : Nat → Int32) (hjr : jr ≤ 30) (hjd : jd < 7) : MI l G yX12_bodyFrom cX12_bodyFrom 5 (some .int) 30 0 0 [.ref h0, .int 2, .int 2, .int xx] [(h0, .inr (12, [.ref nw, .ref nk, .int mhasKept, .ref nt, .int mtaped, .ref nr, .int mrowMany, .int mroundOf, .int mroundFrom, .int mouts, .ref nm, .int mfromHour, .int mtoHour, .ref ns, .int mfrom, .int mto, .int msort, .int misFault, .int mdeep, .int mcoded, .int mlines, .ref nl, .ref nc, .ref nF, .ref np, .ref ntr, .ref nb, .int mbestCost, .ref nso, .ref nsi, .ref nit, .ref nsh, .ref nsf, .ref nss, .ref nrc, .int (nI jr), .int (nI jd), .int mnumber, .int mwhose, .int msize, .int misParted])), (nrc, .inl (G.2.1, 30, .inl fnrc))] (fun (r : Int32) (u : Nat × Int32 × (Nat → Int32)) => (True) ∧ (u.1 ≤ 30)) (fun u : Nat × Int32 × (Nat → Int32) => [(h0, .inr (12, [.ref nw, .ref nk, .int mhasKept, .ref nt, .int mtaped, .ref nr, .int mrowMany, .int mroundOf, .int mroundFrom, .int mouts, .ref nm, .int mfromHour, .int mtoHour, .ref ns, .int mfrom, .int mto, .int msort, .int misFault, .int mdeep, .int mcoded, .int mlines, .ref nl, .ref nc, .ref nF, .ref np, .ref ntr, .ref nb, .int mbestCost, .ref nso, .ref nsi, .ref nit, .ref nsh, .ref nsf, .ref nss, .ref nrc, .int (nI u.1), .int (nI jd), .int mnumber, .int mwhose, .int msize, .int u.2.1])), (nrc, .inl (G.2.1, 30, .inl u.2.2))]) := by
  refine MI.start (by decide +kernel) (Nat.le_of_ble_eq_true rfl) ?_
  intro p e s m below meth c A ls hC hK hP hD hS hA hl
  have hl : lv_has ls 5 [(0, .ref h0), (1, .int 2), (2, .int 2), (3, .int xx)] := hl
  obtain ⟨hx, hb, hr, hml, hB, hown, hlocks, hnm⟩ := id hC
  refine lv_iload_n hx hb dX12_bodyFrom_0 rfl (lv_at hl 1 rfl) ?_
  refine lv_istore (lv' := [(4, .int 2), (0, .ref h0), (1, .int 2), (2, .int 2), (3, .int xx)]) hx hb dX12_bodyFrom_1 hl (by decide) rfl (fun ls hl => ?_)
  refine lv_iload hx hb dX12_bodyFrom_3 (lv_at hl 0 rfl) ?_
  refine lv_iload_n hx hb dX12_bodyFrom_5 rfl (lv_at hl 3 rfl) ?_
  refine pS hC hK hl (m_hasOwn22 l G) si_X12_360 rfl rfl (Nat.le_of_ble_eq_true rfl) ⟨Nat.le_of_ble_eq_true rfl, Nat.le_of_ble_eq_true rfl⟩ ⟨by first | exact Nat.le_of_ble_eq_true rfl | exact Nat.zero_le _, by first | exact Nat.le_of_ble_eq_true rfl | exact Nat.zero_le _⟩ dX12_bodyFrom_6 (fun r6036 hr6036 => ?_)
  obtain rfl := hr6036
  refine lv_if_ne (tgt := 22) hx hb dX12_bodyFrom_9 (by decide) (fun _ => ?_) (fun c9 => absurd c9 (by decide))
  refine lv_aload_n hx hb dX12_bodyFrom_22 rfl (lv_at hl 1 rfl) ?_
  refine lv_iload hx hb dX12_bodyFrom_23 (lv_at hl 0 rfl) ?_
  refine lv_iload_n hx hb dX12_bodyFrom_25 rfl (lv_at hl 3 rfl) ?_
  refine lv_iload_n hx hb dX12_bodyFrom_26 rfl (lv_at hl 4 rfl) ?_
  refine iV (wr := []) hC hK hl hP hD hS hA (m_body22 l G h0 xx nw nk mhasKept nt mtaped nr mrowMany mroundOf mroundFrom mouts nm mfromHour mtoHour ns mfrom mto msort misFault mdeep mcoded mlines nl nc nF np ntr nb mbestCost nso nsi nit nsh nsf nss nrc jr jd mnumber mwhose msize misParted fnrc (by omega) (by omega)) si_X12_363 [0, 1] [] rfl rfl (by decide) rfl (by decide) (by decide) rfl rfl rfl rfl rfl (Nat.le_of_ble_eq_true rfl) ⟨Nat.le_of_ble_eq_true rfl, Nat.le_of_ble_eq_true rfl⟩ ⟨Nat.le_of_ble_eq_true rfl, Nat.le_of_ble_eq_true rfl⟩ dX12_bodyFrom_27 (fun r6038 u6039 H locs hr6038 hP hD hS => ?_)
  obtain ⟨jr16040, ip16041, gtrc6042⟩ := u6039
  try dsimp only at hr6038
  have hP : va_P G.1 vwCl [(h0, .inr (12, [.ref nw, .ref nk, .int mhasKept, .ref nt, .int mtaped, .ref nr, .int mrowMany, .int mroundOf, .int mroundFrom, .int mouts, .ref nm, .int mfromHour, .int mtoHour, .ref ns, .int mfrom, .int mto, .int msort, .int misFault, .int mdeep, .int mcoded, .int mlines, .ref nl, .ref nc, .ref nF, .ref np, .ref ntr, .ref nb, .int mbestCost, .ref nso, .ref nsi, .ref nit, .ref nsh, .ref nsf, .ref nss, .ref nrc, .int (nI jr16040), .int (nI jd), .int mnumber, .int mwhose, .int msize, .int ip16041])), (nrc, .inl (G.2.1, 30, .inl gtrc6042))] H := hP
  have hD : va_D A [(h0, .inr (12, [.ref nw, .ref nk, .int mhasKept, .ref nt, .int mtaped, .ref nr, .int mrowMany, .int mroundOf, .int mroundFrom, .int mouts, .ref nm, .int mfromHour, .int mtoHour, .ref ns, .int mfrom, .int mto, .int msort, .int misFault, .int mdeep, .int mcoded, .int mlines, .ref nl, .ref nc, .ref nF, .ref np, .ref ntr, .ref nb, .int mbestCost, .ref nso, .ref nsi, .ref nit, .ref nsh, .ref nsf, .ref nss, .ref nrc, .int (nI jr16040), .int (nI jd), .int mnumber, .int mwhose, .int msize, .int ip16041])), (nrc, .inl (G.2.1, 30, .inl gtrc6042))] := hD
  obtain ⟨hr6038, w6043⟩ := hr6038
  exact RI (v := r6038) hC hP hD hS [0, 1] (jr16040, ip16041, gtrc6042) rfl rfl (by decide) (⟨trivial, by omega⟩) rfl dX12_bodyFrom_30
set_option maxHeartbeats 4000000 in
set_option maxRecDepth 100000 in
theorem m_body42 (l : Launch) (G : GG) (h0 : Nat) (xx : Int32) (nw : Nat) (nk : Nat) (mhasKept : Int32) (nt : Nat) (mtaped : Int32) (nr : Nat) (mrowMany : Int32) (mroundOf : Int32) (mroundFrom : Int32) (mouts : Int32) (nm : Nat) (mfromHour : Int32) (mtoHour : Int32) (ns : Nat) (mfrom : Int32) (mto : Int32) (msort : Int32) (misFault : Int32) (mdeep : Int32) (mcoded : Int32) (mlines : Int32) (nl : Nat) (nc : Nat) (nF : Nat) (np : Nat) (ntr : Nat) (nb : Nat) (mbestCost : Int32) (nso : Nat) (nsi : Nat) (nit : Nat) (nsh : Nat) (nsf : Nat) (nss : Nat) (nrc : Nat) (jr : Nat) (jd : Nat) (mnumber : Int32) (mwhose : Int32) (msize : Int32) (misParted : Int32) (fnrc : Nat → Int32) (hjr : jr ≤ 30) (hjd : jd < 7) : MI l G yX12_body cX12_body 6 (some .int) 31 0 0 [.ref h0, .int 4, .int 2, .int xx] [(h0, .inr (12, [.ref nw, .ref nk, .int mhasKept, .ref nt, .int mtaped, .ref nr, .int mrowMany, .int mroundOf, .int mroundFrom, .int mouts, .ref nm, .int mfromHour, .int mtoHour, .ref ns, .int mfrom, .int mto, .int msort, .int misFault, .int mdeep, .int mcoded, .int mlines, .ref nl, .ref nc, .ref nF, .ref np, .ref ntr, .ref nb, .int mbestCost, .ref nso, .ref nsi, .ref nit, .ref nsh, .ref nsf, .ref nss, .ref nrc, .int (nI jr), .int (nI jd), .int mnumber, .int mwhose, .int msize, .int misParted])), (nrc, .inl (G.2.1, 30, .inl fnrc))] (fun (r : Int32) (u : Nat × Int32 × (Nat → Int32)) => (True) ∧ (u.1 ≤ 30)) (fun u : Nat × Int32 × (Nat → Int32) => [(h0, .inr (12, [.ref nw, .ref nk, .int mhasKept, .ref nt, .int mtaped, .ref nr, .int mrowMany, .int mroundOf, .int mroundFrom, .int mouts, .ref nm, .int mfromHour, .int mtoHour, .ref ns, .int mfrom, .int mto, .int msort, .int misFault, .int mdeep, .int mcoded, .int mlines, .ref nl, .ref nc, .ref nF, .ref np, .ref ntr, .ref nb, .int mbestCost, .ref nso, .ref nsi, .ref nit, .ref nsh, .ref nsf, .ref nss, .ref nrc, .int (nI u.1), .int (nI jd), .int mnumber, .int mwhose, .int msize, .int u.2.1])), (nrc, .inl (G.2.1, 30, .inl u.2.2))]) := by
  refine MI.start (by decide +kernel) (Nat.le_of_ble_eq_true rfl) ?_
  intro p e s m below meth c A ls hC hK hP hD hS hA hl
  have hl : lv_has ls 6 [(0, .ref h0), (1, .int 4), (2, .int 2), (3, .int xx)] := hl
  obtain ⟨hx, hb, hr, hml, hB, hown, hlocks, hnm⟩ := id hC
  refine lv_iconst (v := 4) hx hb dX12_body_0 (by decide) ?_
  refine lv_iload_n hx hb dX12_body_1 rfl (lv_at hl 1 rfl) ?_
  refine lv_imul hx hb dX12_body_2 ?_
  refine eqi (x1 := 16) (by decide) ?_
  refine lv_iload_n hx hb dX12_body_3 rfl (lv_at hl 2 rfl) ?_
  refine lv_iadd hx hb dX12_body_4 ?_
  refine eqi (x1 := 18) (by decide) ?_
  refine lv_tableIn (tgt := 293) hx hb dX12_body_5 (by decide) (by decide) rfl (by decide) ?_
  refine lv_aload_n hx hb dX12_body_293 rfl (lv_at hl 0 rfl) ?_
  refine lv_bipush (v := 51) hx hb dX12_body_294 (by decide) ?_
  refine vV (wr := []) hC hK hl hP hD hS hA (m_began l G h0 51 nw nk mhasKept nt mtaped nr mrowMany mroundOf mroundFrom mouts nm mfromHour mtoHour ns mfrom mto msort misFault mdeep mcoded mlines nl nc nF np ntr nb mbestCost nso nsi nit nsh nsf nss nrc jr (nI jd) mnumber mwhose msize misParted fnrc (by omega)) si_X12_366 [0, 1] [] rfl rfl (by decide) rfl (by decide) (by decide) rfl rfl rfl rfl rfl (Nat.le_of_ble_eq_true rfl) ⟨Nat.le_of_ble_eq_true rfl, Nat.le_of_ble_eq_true rfl⟩ ⟨Nat.le_of_ble_eq_true rfl, Nat.le_of_ble_eq_true rfl⟩ dX12_body_296 (fun u6045 H locs hr6044 hP hD hS => ?_)
  obtain ⟨jr16046, gtrc6047⟩ := u6045
  try dsimp only at hr6044
  have hP : va_P G.1 vwCl [(h0, .inr (12, [.ref nw, .ref nk, .int mhasKept, .ref nt, .int mtaped, .ref nr, .int mrowMany, .int mroundOf, .int mroundFrom, .int mouts, .ref nm, .int mfromHour, .int mtoHour, .ref ns, .int mfrom, .int mto, .int msort, .int misFault, .int mdeep, .int mcoded, .int mlines, .ref nl, .ref nc, .ref nF, .ref np, .ref ntr, .ref nb, .int mbestCost, .ref nso, .ref nsi, .ref nit, .ref nsh, .ref nsf, .ref nss, .ref nrc, .int (nI jr16046), .int (nI jd), .int mnumber, .int mwhose, .int msize, .int misParted])), (nrc, .inl (G.2.1, 30, .inl gtrc6047))] H := hP
  have hD : va_D A [(h0, .inr (12, [.ref nw, .ref nk, .int mhasKept, .ref nt, .int mtaped, .ref nr, .int mrowMany, .int mroundOf, .int mroundFrom, .int mouts, .ref nm, .int mfromHour, .int mtoHour, .ref ns, .int mfrom, .int mto, .int msort, .int misFault, .int mdeep, .int mcoded, .int mlines, .ref nl, .ref nc, .ref nF, .ref np, .ref ntr, .ref nb, .int mbestCost, .ref nso, .ref nsi, .ref nit, .ref nsh, .ref nsf, .ref nss, .ref nrc, .int (nI jr16046), .int (nI jd), .int mnumber, .int mwhose, .int msize, .int misParted])), (nrc, .inl (G.2.1, 30, .inl gtrc6047))] := hD
  have w6048 := hr6044
  refine lv_aload_n hx hb dX12_body_299 rfl (lv_at hl 0 rfl) ?_
  refine lv_iconst (v := 0) hx hb dX12_body_300 (by decide) ?_
  refine lv_iconst (v := 2) hx hb dX12_body_301 (by decide) ?_
  refine lv_iload_n hx hb dX12_body_302 rfl (lv_at hl 3 rfl) ?_
  refine iV (wr := []) hC hK hl hP hD hS hA (m_from02 l G h0 xx nw nk mhasKept nt mtaped nr mrowMany mroundOf mroundFrom mouts nm mfromHour mtoHour ns mfrom mto msort misFault mdeep mcoded mlines nl nc nF np ntr nb mbestCost nso nsi nit nsh nsf nss nrc jr16046 jd mnumber mwhose msize misParted gtrc6047 (by omega) (by omega)) si_X12_357 [0, 1] [] rfl rfl (by decide) rfl (by decide) (by decide) rfl rfl rfl rfl rfl (Nat.le_of_ble_eq_true rfl) ⟨Nat.le_of_ble_eq_true rfl, Nat.le_of_ble_eq_true rfl⟩ ⟨Nat.le_of_ble_eq_true rfl, Nat.le_of_ble_eq_true rfl⟩ dX12_body_303 (fun r6049 u6050 H locs hr6049 hP hD hS => ?_)
  obtain ⟨jr16051, ip16052, gtrc6053⟩ := u6050
  try dsimp only at hr6049
  have hP : va_P G.1 vwCl [(h0, .inr (12, [.ref nw, .ref nk, .int mhasKept, .ref nt, .int mtaped, .ref nr, .int mrowMany, .int mroundOf, .int mroundFrom, .int mouts, .ref nm, .int mfromHour, .int mtoHour, .ref ns, .int mfrom, .int mto, .int msort, .int misFault, .int mdeep, .int mcoded, .int mlines, .ref nl, .ref nc, .ref nF, .ref np, .ref ntr, .ref nb, .int mbestCost, .ref nso, .ref nsi, .ref nit, .ref nsh, .ref nsf, .ref nss, .ref nrc, .int (nI jr16051), .int (nI jd), .int mnumber, .int mwhose, .int msize, .int ip16052])), (nrc, .inl (G.2.1, 30, .inl gtrc6053))] H := hP
  have hD : va_D A [(h0, .inr (12, [.ref nw, .ref nk, .int mhasKept, .ref nt, .int mtaped, .ref nr, .int mrowMany, .int mroundOf, .int mroundFrom, .int mouts, .ref nm, .int mfromHour, .int mtoHour, .ref ns, .int mfrom, .int mto, .int msort, .int misFault, .int mdeep, .int mcoded, .int mlines, .ref nl, .ref nc, .ref nF, .ref np, .ref ntr, .ref nb, .int mbestCost, .ref nso, .ref nsi, .ref nit, .ref nsh, .ref nsf, .ref nss, .ref nrc, .int (nI jr16051), .int (nI jd), .int mnumber, .int mwhose, .int msize, .int ip16052])), (nrc, .inl (G.2.1, 30, .inl gtrc6053))] := hD
  obtain ⟨hr6049, w6054⟩ := hr6049
  refine lv_istore (lv' := [(4, .int r6049), (0, .ref h0), (1, .int 4), (2, .int 2), (3, .int xx)]) hx hb dX12_body_306 hl (by decide) rfl (fun ls hl => ?_)
  refine lv_iload hx hb dX12_body_308 (lv_at hl 0 rfl) ?_
  refine lv_aload_n hx hb dX12_body_310 rfl (lv_at hl 1 rfl) ?_
  refine lv_iconst (v := 1) hx hb dX12_body_311 (by decide) ?_
  refine lv_iconst (v := 1) hx hb dX12_body_312 (by decide) ?_
  refine iV (wr := []) hC hK hl hP hD hS hA (m_dealt1 l G h0 1 nw nk mhasKept nt mtaped nr mrowMany mroundOf mroundFrom mouts nm mfromHour mtoHour ns mfrom mto msort misFault mdeep mcoded mlines nl nc nF np ntr nb mbestCost nso nsi nit nsh nsf nss nrc jr16051 jd mnumber mwhose msize ip16052 gtrc6053 (by omega) (by omega)) si_X12_372 [0, 1] [] rfl rfl (by decide) rfl (by decide) (by decide) rfl rfl rfl rfl rfl (Nat.le_of_ble_eq_true rfl) ⟨Nat.le_of_ble_eq_true rfl, Nat.le_of_ble_eq_true rfl⟩ ⟨Nat.le_of_ble_eq_true rfl, Nat.le_of_ble_eq_true rfl⟩ dX12_body_313 (fun r6055 u6056 H locs hr6055 hP hD hS => ?_)
  obtain ⟨jr16057, ip16058, gtrc6059⟩ := u6056
  try dsimp only at hr6055
  have hP : va_P G.1 vwCl [(h0, .inr (12, [.ref nw, .ref nk, .int mhasKept, .ref nt, .int mtaped, .ref nr, .int mrowMany, .int mroundOf, .int mroundFrom, .int mouts, .ref nm, .int mfromHour, .int mtoHour, .ref ns, .int mfrom, .int mto, .int msort, .int misFault, .int mdeep, .int mcoded, .int mlines, .ref nl, .ref nc, .ref nF, .ref np, .ref ntr, .ref nb, .int mbestCost, .ref nso, .ref nsi, .ref nit, .ref nsh, .ref nsf, .ref nss, .ref nrc, .int (nI jr16057), .int (nI jd), .int mnumber, .int mwhose, .int msize, .int ip16058])), (nrc, .inl (G.2.1, 30, .inl gtrc6059))] H := hP
  have hD : va_D A [(h0, .inr (12, [.ref nw, .ref nk, .int mhasKept, .ref nt, .int mtaped, .ref nr, .int mrowMany, .int mroundOf, .int mroundFrom, .int mouts, .ref nm, .int mfromHour, .int mtoHour, .ref ns, .int mfrom, .int mto, .int msort, .int misFault, .int mdeep, .int mcoded, .int mlines, .ref nl, .ref nc, .ref nF, .ref np, .ref ntr, .ref nb, .int mbestCost, .ref nso, .ref nsi, .ref nit, .ref nsh, .ref nsf, .ref nss, .ref nrc, .int (nI jr16057), .int (nI jd), .int mnumber, .int mwhose, .int msize, .int ip16058])), (nrc, .inl (G.2.1, 30, .inl gtrc6059))] := hD
  obtain ⟨hr6055, w6060⟩ := hr6055
  refine lv_iadd hx hb dX12_body_316 ?_
  exact RI (v := r6049 + r6055) hC hP hD hS [0, 1] (jr16057, ip16058, gtrc6059) rfl rfl (by decide) (⟨trivial, by omega⟩) rfl dX12_body_317
set_option maxHeartbeats 4000000 in
set_option maxRecDepth 100000 in
theorem m_from42 (l : Launch) (G : GG) (h0 : Nat) (xx : Int32) (nw : Nat) (nk : Nat) (mhasKept : Int32) (nt : Nat) (mtaped : Int32) (nr : Nat) (mrowMany : Int32) (mroundOf : Int32) (mroundFrom : Int32) (mouts : Int32) (nm : Nat) (mfromHour : Int32) (mtoHour : Int32) (ns : Nat) (mfrom : Int32) (mto : Int32) (msort : Int32) (misFault : Int32) (mdeep : Int32) (mcoded : Int32) (mlines : Int32) (nl : Nat) (nc : Nat) (nF : Nat) (np : Nat) (ntr : Nat) (nb : Nat) (mbestCost : Int32) (nso : Nat) (nsi : Nat) (nit : Nat) (nsh : Nat) (nsf : Nat) (nss : Nat) (nrc : Nat) (jr : Nat) (jd : Nat) (mnumber : Int32) (mwhose : Int32) (msize : Int32) (misParted : Int32) (fnrc : Nat → Int32) (hjr : jr ≤ 30) (hjd : jd < 7) : MI l G yX12_bodyFrom cX12_bodyFrom 5 (some .int) 32 0 0 [.ref h0, .int 4, .int 2, .int xx] [(h0, .inr (12, [.ref nw, .ref nk, .int mhasKept, .ref nt, .int mtaped, .ref nr, .int mrowMany, .int mroundOf, .int mroundFrom, .int mouts, .ref nm, .int mfromHour, .int mtoHour, .ref ns, .int mfrom, .int mto, .int msort, .int misFault, .int mdeep, .int mcoded, .int mlines, .ref nl, .ref nc, .ref nF, .ref np, .ref ntr, .ref nb, .int mbestCost, .ref nso, .ref nsi, .ref nit, .ref nsh, .ref nsf, .ref nss, .ref nrc, .int (nI jr), .int (nI jd), .int mnumber, .int mwhose, .int msize, .int misParted])), (nrc, .inl (G.2.1, 30, .inl fnrc))] (fun (r : Int32) (u : Nat × Int32 × (Nat → Int32)) => (True) ∧ (u.1 ≤ 30)) (fun u : Nat × Int32 × (Nat → Int32) => [(h0, .inr (12, [.ref nw, .ref nk, .int mhasKept, .ref nt, .int mtaped, .ref nr, .int mrowMany, .int mroundOf, .int mroundFrom, .int mouts, .ref nm, .int mfromHour, .int mtoHour, .ref ns, .int mfrom, .int mto, .int msort, .int misFault, .int mdeep, .int mcoded, .int mlines, .ref nl, .ref nc, .ref nF, .ref np, .ref ntr, .ref nb, .int mbestCost, .ref nso, .ref nsi, .ref nit, .ref nsh, .ref nsf, .ref nss, .ref nrc, .int (nI u.1), .int (nI jd), .int mnumber, .int mwhose, .int msize, .int u.2.1])), (nrc, .inl (G.2.1, 30, .inl u.2.2))]) := by
  refine MI.start (by decide +kernel) (Nat.le_of_ble_eq_true rfl) ?_
  intro p e s m below meth c A ls hC hK hP hD hS hA hl
  have hl : lv_has ls 5 [(0, .ref h0), (1, .int 4), (2, .int 2), (3, .int xx)] := hl
  obtain ⟨hx, hb, hr, hml, hB, hown, hlocks, hnm⟩ := id hC
  refine lv_iload_n hx hb dX12_bodyFrom_0 rfl (lv_at hl 1 rfl) ?_
  refine lv_istore (lv' := [(4, .int 4), (0, .ref h0), (1, .int 4), (2, .int 2), (3, .int xx)]) hx hb dX12_bodyFrom_1 hl (by decide) rfl (fun ls hl => ?_)
  refine lv_iload hx hb dX12_bodyFrom_3 (lv_at hl 0 rfl) ?_
  refine lv_iload_n hx hb dX12_bodyFrom_5 rfl (lv_at hl 3 rfl) ?_
  refine pS hC hK hl (m_hasOwn42 l G) si_X12_360 rfl rfl (Nat.le_of_ble_eq_true rfl) ⟨Nat.le_of_ble_eq_true rfl, Nat.le_of_ble_eq_true rfl⟩ ⟨by first | exact Nat.le_of_ble_eq_true rfl | exact Nat.zero_le _, by first | exact Nat.le_of_ble_eq_true rfl | exact Nat.zero_le _⟩ dX12_bodyFrom_6 (fun r6061 hr6061 => ?_)
  obtain rfl := hr6061
  refine lv_if_ne (tgt := 22) hx hb dX12_bodyFrom_9 (by decide) (fun _ => ?_) (fun c9 => absurd c9 (by decide))
  refine lv_aload_n hx hb dX12_bodyFrom_22 rfl (lv_at hl 1 rfl) ?_
  refine lv_iload hx hb dX12_bodyFrom_23 (lv_at hl 0 rfl) ?_
  refine lv_iload_n hx hb dX12_bodyFrom_25 rfl (lv_at hl 3 rfl) ?_
  refine lv_iload_n hx hb dX12_bodyFrom_26 rfl (lv_at hl 4 rfl) ?_
  refine iV (wr := []) hC hK hl hP hD hS hA (m_body42 l G h0 xx nw nk mhasKept nt mtaped nr mrowMany mroundOf mroundFrom mouts nm mfromHour mtoHour ns mfrom mto msort misFault mdeep mcoded mlines nl nc nF np ntr nb mbestCost nso nsi nit nsh nsf nss nrc jr jd mnumber mwhose msize misParted fnrc (by omega) (by omega)) si_X12_363 [0, 1] [] rfl rfl (by decide) rfl (by decide) (by decide) rfl rfl rfl rfl rfl (Nat.le_of_ble_eq_true rfl) ⟨Nat.le_of_ble_eq_true rfl, Nat.le_of_ble_eq_true rfl⟩ ⟨Nat.le_of_ble_eq_true rfl, Nat.le_of_ble_eq_true rfl⟩ dX12_bodyFrom_27 (fun r6063 u6064 H locs hr6063 hP hD hS => ?_)
  obtain ⟨jr16065, ip16066, gtrc6067⟩ := u6064
  try dsimp only at hr6063
  have hP : va_P G.1 vwCl [(h0, .inr (12, [.ref nw, .ref nk, .int mhasKept, .ref nt, .int mtaped, .ref nr, .int mrowMany, .int mroundOf, .int mroundFrom, .int mouts, .ref nm, .int mfromHour, .int mtoHour, .ref ns, .int mfrom, .int mto, .int msort, .int misFault, .int mdeep, .int mcoded, .int mlines, .ref nl, .ref nc, .ref nF, .ref np, .ref ntr, .ref nb, .int mbestCost, .ref nso, .ref nsi, .ref nit, .ref nsh, .ref nsf, .ref nss, .ref nrc, .int (nI jr16065), .int (nI jd), .int mnumber, .int mwhose, .int msize, .int ip16066])), (nrc, .inl (G.2.1, 30, .inl gtrc6067))] H := hP
  have hD : va_D A [(h0, .inr (12, [.ref nw, .ref nk, .int mhasKept, .ref nt, .int mtaped, .ref nr, .int mrowMany, .int mroundOf, .int mroundFrom, .int mouts, .ref nm, .int mfromHour, .int mtoHour, .ref ns, .int mfrom, .int mto, .int msort, .int misFault, .int mdeep, .int mcoded, .int mlines, .ref nl, .ref nc, .ref nF, .ref np, .ref ntr, .ref nb, .int mbestCost, .ref nso, .ref nsi, .ref nit, .ref nsh, .ref nsf, .ref nss, .ref nrc, .int (nI jr16065), .int (nI jd), .int mnumber, .int mwhose, .int msize, .int ip16066])), (nrc, .inl (G.2.1, 30, .inl gtrc6067))] := hD
  obtain ⟨hr6063, w6068⟩ := hr6063
  exact RI (v := r6063) hC hP hD hS [0, 1] (jr16065, ip16066, gtrc6067) rfl rfl (by decide) (⟨trivial, by omega⟩) rfl dX12_bodyFrom_30
set_option maxHeartbeats 4000000 in
set_option maxRecDepth 100000 in
theorem m_body52 (l : Launch) (G : GG) (h0 : Nat) (xx : Int32) (nw : Nat) (nk : Nat) (mhasKept : Int32) (nt : Nat) (mtaped : Int32) (nr : Nat) (mrowMany : Int32) (mroundOf : Int32) (mroundFrom : Int32) (mouts : Int32) (nm : Nat) (mfromHour : Int32) (mtoHour : Int32) (ns : Nat) (mfrom : Int32) (mto : Int32) (msort : Int32) (misFault : Int32) (mdeep : Int32) (mcoded : Int32) (mlines : Int32) (nl : Nat) (nc : Nat) (nF : Nat) (np : Nat) (ntr : Nat) (nb : Nat) (mbestCost : Int32) (nso : Nat) (nsi : Nat) (nit : Nat) (nsh : Nat) (nsf : Nat) (nss : Nat) (nrc : Nat) (jr : Nat) (jd : Nat) (mnumber : Int32) (mwhose : Int32) (msize : Int32) (misParted : Int32) (fnrc : Nat → Int32) (hjr : jr ≤ 30) (hjd : jd < 7) : MI l G yX12_body cX12_body 6 (some .int) 33 0 0 [.ref h0, .int 5, .int 2, .int xx] [(h0, .inr (12, [.ref nw, .ref nk, .int mhasKept, .ref nt, .int mtaped, .ref nr, .int mrowMany, .int mroundOf, .int mroundFrom, .int mouts, .ref nm, .int mfromHour, .int mtoHour, .ref ns, .int mfrom, .int mto, .int msort, .int misFault, .int mdeep, .int mcoded, .int mlines, .ref nl, .ref nc, .ref nF, .ref np, .ref ntr, .ref nb, .int mbestCost, .ref nso, .ref nsi, .ref nit, .ref nsh, .ref nsf, .ref nss, .ref nrc, .int (nI jr), .int (nI jd), .int mnumber, .int mwhose, .int msize, .int misParted])), (nrc, .inl (G.2.1, 30, .inl fnrc))] (fun (r : Int32) (u : Nat × Int32 × (Nat → Int32)) => (True) ∧ (u.1 ≤ 30)) (fun u : Nat × Int32 × (Nat → Int32) => [(h0, .inr (12, [.ref nw, .ref nk, .int mhasKept, .ref nt, .int mtaped, .ref nr, .int mrowMany, .int mroundOf, .int mroundFrom, .int mouts, .ref nm, .int mfromHour, .int mtoHour, .ref ns, .int mfrom, .int mto, .int msort, .int misFault, .int mdeep, .int mcoded, .int mlines, .ref nl, .ref nc, .ref nF, .ref np, .ref ntr, .ref nb, .int mbestCost, .ref nso, .ref nsi, .ref nit, .ref nsh, .ref nsf, .ref nss, .ref nrc, .int (nI u.1), .int (nI jd), .int mnumber, .int mwhose, .int msize, .int u.2.1])), (nrc, .inl (G.2.1, 30, .inl u.2.2))]) := by
  refine MI.start (by decide +kernel) (Nat.le_of_ble_eq_true rfl) ?_
  intro p e s m below meth c A ls hC hK hP hD hS hA hl
  have hl : lv_has ls 6 [(0, .ref h0), (1, .int 5), (2, .int 2), (3, .int xx)] := hl
  obtain ⟨hx, hb, hr, hml, hB, hown, hlocks, hnm⟩ := id hC
  refine lv_iconst (v := 4) hx hb dX12_body_0 (by decide) ?_
  refine lv_iload_n hx hb dX12_body_1 rfl (lv_at hl 1 rfl) ?_
  refine lv_imul hx hb dX12_body_2 ?_
  refine eqi (x1 := 20) (by decide) ?_
  refine lv_iload_n hx hb dX12_body_3 rfl (lv_at hl 2 rfl) ?_
  refine lv_iadd hx hb dX12_body_4 ?_
  refine eqi (x1 := 22) (by decide) ?_
  refine lv_tableIn (tgt := 318) hx hb dX12_body_5 (by decide) (by decide) rfl (by decide) ?_
  refine lv_aload_n hx hb dX12_body_318 rfl (lv_at hl 0 rfl) ?_
  refine lv_bipush (v := 60) hx hb dX12_body_319 (by decide) ?_
  refine vV (wr := []) hC hK hl hP hD hS hA (m_began l G h0 60 nw nk mhasKept nt mtaped nr mrowMany mroundOf mroundFrom mouts nm mfromHour mtoHour ns mfrom mto msort misFault mdeep mcoded mlines nl nc nF np ntr nb mbestCost nso nsi nit nsh nsf nss nrc jr (nI jd) mnumber mwhose msize misParted fnrc (by omega)) si_X12_366 [0, 1] [] rfl rfl (by decide) rfl (by decide) (by decide) rfl rfl rfl rfl rfl (Nat.le_of_ble_eq_true rfl) ⟨Nat.le_of_ble_eq_true rfl, Nat.le_of_ble_eq_true rfl⟩ ⟨Nat.le_of_ble_eq_true rfl, Nat.le_of_ble_eq_true rfl⟩ dX12_body_321 (fun u6070 H locs hr6069 hP hD hS => ?_)
  obtain ⟨jr16071, gtrc6072⟩ := u6070
  try dsimp only at hr6069
  have hP : va_P G.1 vwCl [(h0, .inr (12, [.ref nw, .ref nk, .int mhasKept, .ref nt, .int mtaped, .ref nr, .int mrowMany, .int mroundOf, .int mroundFrom, .int mouts, .ref nm, .int mfromHour, .int mtoHour, .ref ns, .int mfrom, .int mto, .int msort, .int misFault, .int mdeep, .int mcoded, .int mlines, .ref nl, .ref nc, .ref nF, .ref np, .ref ntr, .ref nb, .int mbestCost, .ref nso, .ref nsi, .ref nit, .ref nsh, .ref nsf, .ref nss, .ref nrc, .int (nI jr16071), .int (nI jd), .int mnumber, .int mwhose, .int msize, .int misParted])), (nrc, .inl (G.2.1, 30, .inl gtrc6072))] H := hP
  have hD : va_D A [(h0, .inr (12, [.ref nw, .ref nk, .int mhasKept, .ref nt, .int mtaped, .ref nr, .int mrowMany, .int mroundOf, .int mroundFrom, .int mouts, .ref nm, .int mfromHour, .int mtoHour, .ref ns, .int mfrom, .int mto, .int msort, .int misFault, .int mdeep, .int mcoded, .int mlines, .ref nl, .ref nc, .ref nF, .ref np, .ref ntr, .ref nb, .int mbestCost, .ref nso, .ref nsi, .ref nit, .ref nsh, .ref nsf, .ref nss, .ref nrc, .int (nI jr16071), .int (nI jd), .int mnumber, .int mwhose, .int msize, .int misParted])), (nrc, .inl (G.2.1, 30, .inl gtrc6072))] := hD
  have w6073 := hr6069
  refine lv_aload_n hx hb dX12_body_324 rfl (lv_at hl 0 rfl) ?_
  refine lv_iconst (v := 4) hx hb dX12_body_325 (by decide) ?_
  refine lv_iconst (v := 2) hx hb dX12_body_326 (by decide) ?_
  refine lv_iload_n hx hb dX12_body_327 rfl (lv_at hl 3 rfl) ?_
  refine iV (wr := []) hC hK hl hP hD hS hA (m_from42 l G h0 xx nw nk mhasKept nt mtaped nr mrowMany mroundOf mroundFrom mouts nm mfromHour mtoHour ns mfrom mto msort misFault mdeep mcoded mlines nl nc nF np ntr nb mbestCost nso nsi nit nsh nsf nss nrc jr16071 jd mnumber mwhose msize misParted gtrc6072 (by omega) (by omega)) si_X12_357 [0, 1] [] rfl rfl (by decide) rfl (by decide) (by decide) rfl rfl rfl rfl rfl (Nat.le_of_ble_eq_true rfl) ⟨Nat.le_of_ble_eq_true rfl, Nat.le_of_ble_eq_true rfl⟩ ⟨Nat.le_of_ble_eq_true rfl, Nat.le_of_ble_eq_true rfl⟩ dX12_body_328 (fun r6074 u6075 H locs hr6074 hP hD hS => ?_)
  obtain ⟨jr16076, ip16077, gtrc6078⟩ := u6075
  try dsimp only at hr6074
  have hP : va_P G.1 vwCl [(h0, .inr (12, [.ref nw, .ref nk, .int mhasKept, .ref nt, .int mtaped, .ref nr, .int mrowMany, .int mroundOf, .int mroundFrom, .int mouts, .ref nm, .int mfromHour, .int mtoHour, .ref ns, .int mfrom, .int mto, .int msort, .int misFault, .int mdeep, .int mcoded, .int mlines, .ref nl, .ref nc, .ref nF, .ref np, .ref ntr, .ref nb, .int mbestCost, .ref nso, .ref nsi, .ref nit, .ref nsh, .ref nsf, .ref nss, .ref nrc, .int (nI jr16076), .int (nI jd), .int mnumber, .int mwhose, .int msize, .int ip16077])), (nrc, .inl (G.2.1, 30, .inl gtrc6078))] H := hP
  have hD : va_D A [(h0, .inr (12, [.ref nw, .ref nk, .int mhasKept, .ref nt, .int mtaped, .ref nr, .int mrowMany, .int mroundOf, .int mroundFrom, .int mouts, .ref nm, .int mfromHour, .int mtoHour, .ref ns, .int mfrom, .int mto, .int msort, .int misFault, .int mdeep, .int mcoded, .int mlines, .ref nl, .ref nc, .ref nF, .ref np, .ref ntr, .ref nb, .int mbestCost, .ref nso, .ref nsi, .ref nit, .ref nsh, .ref nsf, .ref nss, .ref nrc, .int (nI jr16076), .int (nI jd), .int mnumber, .int mwhose, .int msize, .int ip16077])), (nrc, .inl (G.2.1, 30, .inl gtrc6078))] := hD
  obtain ⟨hr6074, w6079⟩ := hr6074
  refine lv_iconst (v := 2) hx hb dX12_body_331 (by decide) ?_
  refine lv_imul hx hb dX12_body_332 ?_
  exact RI (v := r6074 * 2) hC hP hD hS [0, 1] (jr16076, ip16077, gtrc6078) rfl rfl (by decide) (⟨trivial, by omega⟩) rfl dX12_body_333
set_option maxHeartbeats 4000000 in
set_option maxRecDepth 100000 in
theorem m_from52 (l : Launch) (G : GG) (h0 : Nat) (xx : Int32) (nw : Nat) (nk : Nat) (mhasKept : Int32) (nt : Nat) (mtaped : Int32) (nr : Nat) (mrowMany : Int32) (mroundOf : Int32) (mroundFrom : Int32) (mouts : Int32) (nm : Nat) (mfromHour : Int32) (mtoHour : Int32) (ns : Nat) (mfrom : Int32) (mto : Int32) (msort : Int32) (misFault : Int32) (mdeep : Int32) (mcoded : Int32) (mlines : Int32) (nl : Nat) (nc : Nat) (nF : Nat) (np : Nat) (ntr : Nat) (nb : Nat) (mbestCost : Int32) (nso : Nat) (nsi : Nat) (nit : Nat) (nsh : Nat) (nsf : Nat) (nss : Nat) (nrc : Nat) (jr : Nat) (jd : Nat) (mnumber : Int32) (mwhose : Int32) (msize : Int32) (misParted : Int32) (fnrc : Nat → Int32) (hjr : jr ≤ 30) (hjd : jd < 7) : MI l G yX12_bodyFrom cX12_bodyFrom 5 (some .int) 34 0 0 [.ref h0, .int 5, .int 2, .int xx] [(h0, .inr (12, [.ref nw, .ref nk, .int mhasKept, .ref nt, .int mtaped, .ref nr, .int mrowMany, .int mroundOf, .int mroundFrom, .int mouts, .ref nm, .int mfromHour, .int mtoHour, .ref ns, .int mfrom, .int mto, .int msort, .int misFault, .int mdeep, .int mcoded, .int mlines, .ref nl, .ref nc, .ref nF, .ref np, .ref ntr, .ref nb, .int mbestCost, .ref nso, .ref nsi, .ref nit, .ref nsh, .ref nsf, .ref nss, .ref nrc, .int (nI jr), .int (nI jd), .int mnumber, .int mwhose, .int msize, .int misParted])), (nrc, .inl (G.2.1, 30, .inl fnrc))] (fun (r : Int32) (u : Nat × Int32 × (Nat → Int32)) => (True) ∧ (u.1 ≤ 30)) (fun u : Nat × Int32 × (Nat → Int32) => [(h0, .inr (12, [.ref nw, .ref nk, .int mhasKept, .ref nt, .int mtaped, .ref nr, .int mrowMany, .int mroundOf, .int mroundFrom, .int mouts, .ref nm, .int mfromHour, .int mtoHour, .ref ns, .int mfrom, .int mto, .int msort, .int misFault, .int mdeep, .int mcoded, .int mlines, .ref nl, .ref nc, .ref nF, .ref np, .ref ntr, .ref nb, .int mbestCost, .ref nso, .ref nsi, .ref nit, .ref nsh, .ref nsf, .ref nss, .ref nrc, .int (nI u.1), .int (nI jd), .int mnumber, .int mwhose, .int msize, .int u.2.1])), (nrc, .inl (G.2.1, 30, .inl u.2.2))]) := by
  refine MI.start (by decide +kernel) (Nat.le_of_ble_eq_true rfl) ?_
  intro p e s m below meth c A ls hC hK hP hD hS hA hl
  have hl : lv_has ls 5 [(0, .ref h0), (1, .int 5), (2, .int 2), (3, .int xx)] := hl
  obtain ⟨hx, hb, hr, hml, hB, hown, hlocks, hnm⟩ := id hC
  refine lv_iload_n hx hb dX12_bodyFrom_0 rfl (lv_at hl 1 rfl) ?_
  refine lv_istore (lv' := [(4, .int 5), (0, .ref h0), (1, .int 5), (2, .int 2), (3, .int xx)]) hx hb dX12_bodyFrom_1 hl (by decide) rfl (fun ls hl => ?_)
  refine lv_iload hx hb dX12_bodyFrom_3 (lv_at hl 0 rfl) ?_
  refine lv_iload_n hx hb dX12_bodyFrom_5 rfl (lv_at hl 3 rfl) ?_
  refine pS hC hK hl (m_hasOwn52 l G) si_X12_360 rfl rfl (Nat.le_of_ble_eq_true rfl) ⟨Nat.le_of_ble_eq_true rfl, Nat.le_of_ble_eq_true rfl⟩ ⟨by first | exact Nat.le_of_ble_eq_true rfl | exact Nat.zero_le _, by first | exact Nat.le_of_ble_eq_true rfl | exact Nat.zero_le _⟩ dX12_bodyFrom_6 (fun r6080 hr6080 => ?_)
  obtain rfl := hr6080
  refine lv_if_ne (tgt := 22) hx hb dX12_bodyFrom_9 (by decide) (fun _ => ?_) (fun c9 => absurd c9 (by decide))
  refine lv_aload_n hx hb dX12_bodyFrom_22 rfl (lv_at hl 1 rfl) ?_
  refine lv_iload hx hb dX12_bodyFrom_23 (lv_at hl 0 rfl) ?_
  refine lv_iload_n hx hb dX12_bodyFrom_25 rfl (lv_at hl 3 rfl) ?_
  refine lv_iload_n hx hb dX12_bodyFrom_26 rfl (lv_at hl 4 rfl) ?_
  refine iV (wr := []) hC hK hl hP hD hS hA (m_body52 l G h0 xx nw nk mhasKept nt mtaped nr mrowMany mroundOf mroundFrom mouts nm mfromHour mtoHour ns mfrom mto msort misFault mdeep mcoded mlines nl nc nF np ntr nb mbestCost nso nsi nit nsh nsf nss nrc jr jd mnumber mwhose msize misParted fnrc (by omega) (by omega)) si_X12_363 [0, 1] [] rfl rfl (by decide) rfl (by decide) (by decide) rfl rfl rfl rfl rfl (Nat.le_of_ble_eq_true rfl) ⟨Nat.le_of_ble_eq_true rfl, Nat.le_of_ble_eq_true rfl⟩ ⟨Nat.le_of_ble_eq_true rfl, Nat.le_of_ble_eq_true rfl⟩ dX12_bodyFrom_27 (fun r6082 u6083 H locs hr6082 hP hD hS => ?_)
  obtain ⟨jr16084, ip16085, gtrc6086⟩ := u6083
  try dsimp only at hr6082
  have hP : va_P G.1 vwCl [(h0, .inr (12, [.ref nw, .ref nk, .int mhasKept, .ref nt, .int mtaped, .ref nr, .int mrowMany, .int mroundOf, .int mroundFrom, .int mouts, .ref nm, .int mfromHour, .int mtoHour, .ref ns, .int mfrom, .int mto, .int msort, .int misFault, .int mdeep, .int mcoded, .int mlines, .ref nl, .ref nc, .ref nF, .ref np, .ref ntr, .ref nb, .int mbestCost, .ref nso, .ref nsi, .ref nit, .ref nsh, .ref nsf, .ref nss, .ref nrc, .int (nI jr16084), .int (nI jd), .int mnumber, .int mwhose, .int msize, .int ip16085])), (nrc, .inl (G.2.1, 30, .inl gtrc6086))] H := hP
  have hD : va_D A [(h0, .inr (12, [.ref nw, .ref nk, .int mhasKept, .ref nt, .int mtaped, .ref nr, .int mrowMany, .int mroundOf, .int mroundFrom, .int mouts, .ref nm, .int mfromHour, .int mtoHour, .ref ns, .int mfrom, .int mto, .int msort, .int misFault, .int mdeep, .int mcoded, .int mlines, .ref nl, .ref nc, .ref nF, .ref np, .ref ntr, .ref nb, .int mbestCost, .ref nso, .ref nsi, .ref nit, .ref nsh, .ref nsf, .ref nss, .ref nrc, .int (nI jr16084), .int (nI jd), .int mnumber, .int mwhose, .int msize, .int ip16085])), (nrc, .inl (G.2.1, 30, .inl gtrc6086))] := hD
  obtain ⟨hr6082, w6087⟩ := hr6082
  exact RI (v := r6082) hC hP hD hS [0, 1] (jr16084, ip16085, gtrc6086) rfl rfl (by decide) (⟨trivial, by omega⟩) rfl dX12_bodyFrom_30
set_option maxHeartbeats 4000000 in
set_option maxRecDepth 100000 in
theorem m_from12 (l : Launch) (G : GG) (h0 : Nat) (xx : Int32) (nw : Nat) (nk : Nat) (mhasKept : Int32) (nt : Nat) (mtaped : Int32) (nr : Nat) (mrowMany : Int32) (mroundOf : Int32) (mroundFrom : Int32) (mouts : Int32) (nm : Nat) (mfromHour : Int32) (mtoHour : Int32) (ns : Nat) (mfrom : Int32) (mto : Int32) (msort : Int32) (misFault : Int32) (mdeep : Int32) (mcoded : Int32) (mlines : Int32) (nl : Nat) (nc : Nat) (nF : Nat) (np : Nat) (ntr : Nat) (nb : Nat) (mbestCost : Int32) (nso : Nat) (nsi : Nat) (nit : Nat) (nsh : Nat) (nsf : Nat) (nss : Nat) (nrc : Nat) (jr : Nat) (jd : Nat) (mnumber : Int32) (mwhose : Int32) (msize : Int32) (misParted : Int32) (fnrc : Nat → Int32) (hjr : jr ≤ 30) (hjd : jd < 7) : MI l G yX12_bodyFrom cX12_bodyFrom 5 (some .int) 36 0 0 [.ref h0, .int 1, .int 2, .int xx] [(h0, .inr (12, [.ref nw, .ref nk, .int mhasKept, .ref nt, .int mtaped, .ref nr, .int mrowMany, .int mroundOf, .int mroundFrom, .int mouts, .ref nm, .int mfromHour, .int mtoHour, .ref ns, .int mfrom, .int mto, .int msort, .int misFault, .int mdeep, .int mcoded, .int mlines, .ref nl, .ref nc, .ref nF, .ref np, .ref ntr, .ref nb, .int mbestCost, .ref nso, .ref nsi, .ref nit, .ref nsh, .ref nsf, .ref nss, .ref nrc, .int (nI jr), .int (nI jd), .int mnumber, .int mwhose, .int msize, .int misParted])), (nrc, .inl (G.2.1, 30, .inl fnrc))] (fun (r : Int32) (u : Nat × Int32 × (Nat → Int32)) => (True) ∧ (u.1 ≤ 30)) (fun u : Nat × Int32 × (Nat → Int32) => [(h0, .inr (12, [.ref nw, .ref nk, .int mhasKept, .ref nt, .int mtaped, .ref nr, .int mrowMany, .int mroundOf, .int mroundFrom, .int mouts, .ref nm, .int mfromHour, .int mtoHour, .ref ns, .int mfrom, .int mto, .int msort, .int misFault, .int mdeep, .int mcoded, .int mlines, .ref nl, .ref nc, .ref nF, .ref np, .ref ntr, .ref nb, .int mbestCost, .ref nso, .ref nsi, .ref nit, .ref nsh, .ref nsf, .ref nss, .ref nrc, .int (nI u.1), .int (nI jd), .int mnumber, .int mwhose, .int msize, .int u.2.1])), (nrc, .inl (G.2.1, 30, .inl u.2.2))]) := by
  refine MI.start (by decide +kernel) (Nat.le_of_ble_eq_true rfl) ?_
  intro p e s m below meth c A ls hC hK hP hD hS hA hl
  have hl : lv_has ls 5 [(0, .ref h0), (1, .int 1), (2, .int 2), (3, .int xx)] := hl
  obtain ⟨hx, hb, hr, hml, hB, hown, hlocks, hnm⟩ := id hC
  refine lv_iload_n hx hb dX12_bodyFrom_0 rfl (lv_at hl 1 rfl) ?_
  refine lv_istore (lv' := [(4, .int 1), (0, .ref h0), (1, .int 1), (2, .int 2), (3, .int xx)]) hx hb dX12_bodyFrom_1 hl (by decide) rfl (fun ls hl => ?_)
  refine lv_iload hx hb dX12_bodyFrom_3 (lv_at hl 0 rfl) ?_
  refine lv_iload_n hx hb dX12_bodyFrom_5 rfl (lv_at hl 3 rfl) ?_
  refine pS hC hK hl (m_hasOwn12 l G) si_X12_360 rfl rfl (Nat.le_of_ble_eq_true rfl) ⟨Nat.le_of_ble_eq_true rfl, Nat.le_of_ble_eq_true rfl⟩ ⟨by first | exact Nat.le_of_ble_eq_true rfl | exact Nat.zero_le _, by first | exact Nat.le_of_ble_eq_true rfl | exact Nat.zero_le _⟩ dX12_bodyFrom_6 (fun r6088 hr6088 => ?_)
  obtain rfl := hr6088
  refine lv_if_ne (tgt := 22) hx hb dX12_bodyFrom_9 (by decide) (fun c9 => absurd (by decide) c9) (fun _ => ?_)
  refine lv_iload hx hb dX12_bodyFrom_12 (lv_at hl 0 rfl) ?_
  refine pS hC hK hl (m_above1 l G) si_X12_348 rfl rfl (Nat.le_of_ble_eq_true rfl) ⟨Nat.le_of_ble_eq_true rfl, Nat.le_of_ble_eq_true rfl⟩ ⟨by first | exact Nat.le_of_ble_eq_true rfl | exact Nat.zero_le _, by first | exact Nat.le_of_ble_eq_true rfl | exact Nat.zero_le _⟩ dX12_bodyFrom_14 (fun r6090 hr6090 => ?_)
  obtain rfl := hr6090
  refine lv_istore (lv' := [(4, .int 0), (0, .ref h0), (1, .int 1), (2, .int 2), (3, .int xx)]) hx hb dX12_bodyFrom_17 hl (by decide) rfl (fun ls hl => ?_)
  refine lv_goto (tgt := 3) hx hb dX12_bodyFrom_19 (by decide) ?_
  refine lv_iload hx hb dX12_bodyFrom_3 (lv_at hl 0 rfl) ?_
  refine lv_iload_n hx hb dX12_bodyFrom_5 rfl (lv_at hl 3 rfl) ?_
  refine pS hC hK hl (m_hasOwn02 l G) si_X12_360 rfl rfl (Nat.le_of_ble_eq_true rfl) ⟨Nat.le_of_ble_eq_true rfl, Nat.le_of_ble_eq_true rfl⟩ ⟨by first | exact Nat.le_of_ble_eq_true rfl | exact Nat.zero_le _, by first | exact Nat.le_of_ble_eq_true rfl | exact Nat.zero_le _⟩ dX12_bodyFrom_6 (fun r6092 hr6092 => ?_)
  obtain rfl := hr6092
  refine lv_if_ne (tgt := 22) hx hb dX12_bodyFrom_9 (by decide) (fun _ => ?_) (fun c9 => absurd c9 (by decide))
  refine lv_aload_n hx hb dX12_bodyFrom_22 rfl (lv_at hl 1 rfl) ?_
  refine lv_iload hx hb dX12_bodyFrom_23 (lv_at hl 0 rfl) ?_
  refine lv_iload_n hx hb dX12_bodyFrom_25 rfl (lv_at hl 3 rfl) ?_
  refine lv_iload_n hx hb dX12_bodyFrom_26 rfl (lv_at hl 4 rfl) ?_
  refine iV (wr := []) hC hK hl hP hD hS hA (m_body02 l G h0 xx nw nk mhasKept nt mtaped nr mrowMany mroundOf mroundFrom mouts nm mfromHour mtoHour ns mfrom mto msort misFault mdeep mcoded mlines nl nc nF np ntr nb mbestCost nso nsi nit nsh nsf nss nrc jr jd mnumber mwhose msize misParted fnrc (by omega) (by omega)) si_X12_363 [0, 1] [] rfl rfl (by decide) rfl (by decide) (by decide) rfl rfl rfl rfl rfl (Nat.le_of_ble_eq_true rfl) ⟨Nat.le_of_ble_eq_true rfl, Nat.le_of_ble_eq_true rfl⟩ ⟨Nat.le_of_ble_eq_true rfl, Nat.le_of_ble_eq_true rfl⟩ dX12_bodyFrom_27 (fun r6094 u6095 H locs hr6094 hP hD hS => ?_)
  obtain ⟨jr16096, ip16097, gtrc6098⟩ := u6095
  try dsimp only at hr6094
  have hP : va_P G.1 vwCl [(h0, .inr (12, [.ref nw, .ref nk, .int mhasKept, .ref nt, .int mtaped, .ref nr, .int mrowMany, .int mroundOf, .int mroundFrom, .int mouts, .ref nm, .int mfromHour, .int mtoHour, .ref ns, .int mfrom, .int mto, .int msort, .int misFault, .int mdeep, .int mcoded, .int mlines, .ref nl, .ref nc, .ref nF, .ref np, .ref ntr, .ref nb, .int mbestCost, .ref nso, .ref nsi, .ref nit, .ref nsh, .ref nsf, .ref nss, .ref nrc, .int (nI jr16096), .int (nI jd), .int mnumber, .int mwhose, .int msize, .int ip16097])), (nrc, .inl (G.2.1, 30, .inl gtrc6098))] H := hP
  have hD : va_D A [(h0, .inr (12, [.ref nw, .ref nk, .int mhasKept, .ref nt, .int mtaped, .ref nr, .int mrowMany, .int mroundOf, .int mroundFrom, .int mouts, .ref nm, .int mfromHour, .int mtoHour, .ref ns, .int mfrom, .int mto, .int msort, .int misFault, .int mdeep, .int mcoded, .int mlines, .ref nl, .ref nc, .ref nF, .ref np, .ref ntr, .ref nb, .int mbestCost, .ref nso, .ref nsi, .ref nit, .ref nsh, .ref nsf, .ref nss, .ref nrc, .int (nI jr16096), .int (nI jd), .int mnumber, .int mwhose, .int msize, .int ip16097])), (nrc, .inl (G.2.1, 30, .inl gtrc6098))] := hD
  obtain ⟨hr6094, w6099⟩ := hr6094
  exact RI (v := r6094) hC hP hD hS [0, 1] (jr16096, ip16097, gtrc6098) rfl rfl (by decide) (⟨trivial, by omega⟩) rfl dX12_bodyFrom_30
set_option maxHeartbeats 4000000 in
set_option maxRecDepth 100000 in
theorem m_from32 (l : Launch) (G : GG) (h0 : Nat) (xx : Int32) (nw : Nat) (nk : Nat) (mhasKept : Int32) (nt : Nat) (mtaped : Int32) (nr : Nat) (mrowMany : Int32) (mroundOf : Int32) (mroundFrom : Int32) (mouts : Int32) (nm : Nat) (mfromHour : Int32) (mtoHour : Int32) (ns : Nat) (mfrom : Int32) (mto : Int32) (msort : Int32) (misFault : Int32) (mdeep : Int32) (mcoded : Int32) (mlines : Int32) (nl : Nat) (nc : Nat) (nF : Nat) (np : Nat) (ntr : Nat) (nb : Nat) (mbestCost : Int32) (nso : Nat) (nsi : Nat) (nit : Nat) (nsh : Nat) (nsf : Nat) (nss : Nat) (nrc : Nat) (jr : Nat) (jd : Nat) (mnumber : Int32) (mwhose : Int32) (msize : Int32) (misParted : Int32) (fnrc : Nat → Int32) (hjr : jr ≤ 30) (hjd : jd < 7) : MI l G yX12_bodyFrom cX12_bodyFrom 5 (some .int) 36 0 0 [.ref h0, .int 3, .int 2, .int xx] [(h0, .inr (12, [.ref nw, .ref nk, .int mhasKept, .ref nt, .int mtaped, .ref nr, .int mrowMany, .int mroundOf, .int mroundFrom, .int mouts, .ref nm, .int mfromHour, .int mtoHour, .ref ns, .int mfrom, .int mto, .int msort, .int misFault, .int mdeep, .int mcoded, .int mlines, .ref nl, .ref nc, .ref nF, .ref np, .ref ntr, .ref nb, .int mbestCost, .ref nso, .ref nsi, .ref nit, .ref nsh, .ref nsf, .ref nss, .ref nrc, .int (nI jr), .int (nI jd), .int mnumber, .int mwhose, .int msize, .int misParted])), (nrc, .inl (G.2.1, 30, .inl fnrc))] (fun (r : Int32) (u : Nat × Int32 × (Nat → Int32)) => (True) ∧ (u.1 ≤ 30)) (fun u : Nat × Int32 × (Nat → Int32) => [(h0, .inr (12, [.ref nw, .ref nk, .int mhasKept, .ref nt, .int mtaped, .ref nr, .int mrowMany, .int mroundOf, .int mroundFrom, .int mouts, .ref nm, .int mfromHour, .int mtoHour, .ref ns, .int mfrom, .int mto, .int msort, .int misFault, .int mdeep, .int mcoded, .int mlines, .ref nl, .ref nc, .ref nF, .ref np, .ref ntr, .ref nb, .int mbestCost, .ref nso, .ref nsi, .ref nit, .ref nsh, .ref nsf, .ref nss, .ref nrc, .int (nI u.1), .int (nI jd), .int mnumber, .int mwhose, .int msize, .int u.2.1])), (nrc, .inl (G.2.1, 30, .inl u.2.2))]) := by
  refine MI.start (by decide +kernel) (Nat.le_of_ble_eq_true rfl) ?_
  intro p e s m below meth c A ls hC hK hP hD hS hA hl
  have hl : lv_has ls 5 [(0, .ref h0), (1, .int 3), (2, .int 2), (3, .int xx)] := hl
  obtain ⟨hx, hb, hr, hml, hB, hown, hlocks, hnm⟩ := id hC
  refine lv_iload_n hx hb dX12_bodyFrom_0 rfl (lv_at hl 1 rfl) ?_
  refine lv_istore (lv' := [(4, .int 3), (0, .ref h0), (1, .int 3), (2, .int 2), (3, .int xx)]) hx hb dX12_bodyFrom_1 hl (by decide) rfl (fun ls hl => ?_)
  refine lv_iload hx hb dX12_bodyFrom_3 (lv_at hl 0 rfl) ?_
  refine lv_iload_n hx hb dX12_bodyFrom_5 rfl (lv_at hl 3 rfl) ?_
  refine pS hC hK hl (m_hasOwn32 l G) si_X12_360 rfl rfl (Nat.le_of_ble_eq_true rfl) ⟨Nat.le_of_ble_eq_true rfl, Nat.le_of_ble_eq_true rfl⟩ ⟨by first | exact Nat.le_of_ble_eq_true rfl | exact Nat.zero_le _, by first | exact Nat.le_of_ble_eq_true rfl | exact Nat.zero_le _⟩ dX12_bodyFrom_6 (fun r6100 hr6100 => ?_)
  obtain rfl := hr6100
  refine lv_if_ne (tgt := 22) hx hb dX12_bodyFrom_9 (by decide) (fun c9 => absurd (by decide) c9) (fun _ => ?_)
  refine lv_iload hx hb dX12_bodyFrom_12 (lv_at hl 0 rfl) ?_
  refine pS hC hK hl (m_above3 l G) si_X12_348 rfl rfl (Nat.le_of_ble_eq_true rfl) ⟨Nat.le_of_ble_eq_true rfl, Nat.le_of_ble_eq_true rfl⟩ ⟨by first | exact Nat.le_of_ble_eq_true rfl | exact Nat.zero_le _, by first | exact Nat.le_of_ble_eq_true rfl | exact Nat.zero_le _⟩ dX12_bodyFrom_14 (fun r6102 hr6102 => ?_)
  obtain rfl := hr6102
  refine lv_istore (lv' := [(4, .int 1), (0, .ref h0), (1, .int 3), (2, .int 2), (3, .int xx)]) hx hb dX12_bodyFrom_17 hl (by decide) rfl (fun ls hl => ?_)
  refine lv_goto (tgt := 3) hx hb dX12_bodyFrom_19 (by decide) ?_
  refine lv_iload hx hb dX12_bodyFrom_3 (lv_at hl 0 rfl) ?_
  refine lv_iload_n hx hb dX12_bodyFrom_5 rfl (lv_at hl 3 rfl) ?_
  refine pS hC hK hl (m_hasOwn12 l G) si_X12_360 rfl rfl (Nat.le_of_ble_eq_true rfl) ⟨Nat.le_of_ble_eq_true rfl, Nat.le_of_ble_eq_true rfl⟩ ⟨by first | exact Nat.le_of_ble_eq_true rfl | exact Nat.zero_le _, by first | exact Nat.le_of_ble_eq_true rfl | exact Nat.zero_le _⟩ dX12_bodyFrom_6 (fun r6104 hr6104 => ?_)
  obtain rfl := hr6104
  refine lv_if_ne (tgt := 22) hx hb dX12_bodyFrom_9 (by decide) (fun c9 => absurd (by decide) c9) (fun _ => ?_)
  refine lv_iload hx hb dX12_bodyFrom_12 (lv_at hl 0 rfl) ?_
  refine pS hC hK hl (m_above1 l G) si_X12_348 rfl rfl (Nat.le_of_ble_eq_true rfl) ⟨Nat.le_of_ble_eq_true rfl, Nat.le_of_ble_eq_true rfl⟩ ⟨by first | exact Nat.le_of_ble_eq_true rfl | exact Nat.zero_le _, by first | exact Nat.le_of_ble_eq_true rfl | exact Nat.zero_le _⟩ dX12_bodyFrom_14 (fun r6106 hr6106 => ?_)
  obtain rfl := hr6106
  refine lv_istore (lv' := [(4, .int 0), (0, .ref h0), (1, .int 3), (2, .int 2), (3, .int xx)]) hx hb dX12_bodyFrom_17 hl (by decide) rfl (fun ls hl => ?_)
  refine lv_goto (tgt := 3) hx hb dX12_bodyFrom_19 (by decide) ?_
  refine lv_iload hx hb dX12_bodyFrom_3 (lv_at hl 0 rfl) ?_
  refine lv_iload_n hx hb dX12_bodyFrom_5 rfl (lv_at hl 3 rfl) ?_
  refine pS hC hK hl (m_hasOwn02 l G) si_X12_360 rfl rfl (Nat.le_of_ble_eq_true rfl) ⟨Nat.le_of_ble_eq_true rfl, Nat.le_of_ble_eq_true rfl⟩ ⟨by first | exact Nat.le_of_ble_eq_true rfl | exact Nat.zero_le _, by first | exact Nat.le_of_ble_eq_true rfl | exact Nat.zero_le _⟩ dX12_bodyFrom_6 (fun r6108 hr6108 => ?_)
  obtain rfl := hr6108
  refine lv_if_ne (tgt := 22) hx hb dX12_bodyFrom_9 (by decide) (fun _ => ?_) (fun c9 => absurd c9 (by decide))
  refine lv_aload_n hx hb dX12_bodyFrom_22 rfl (lv_at hl 1 rfl) ?_
  refine lv_iload hx hb dX12_bodyFrom_23 (lv_at hl 0 rfl) ?_
  refine lv_iload_n hx hb dX12_bodyFrom_25 rfl (lv_at hl 3 rfl) ?_
  refine lv_iload_n hx hb dX12_bodyFrom_26 rfl (lv_at hl 4 rfl) ?_
  refine iV (wr := []) hC hK hl hP hD hS hA (m_body02 l G h0 xx nw nk mhasKept nt mtaped nr mrowMany mroundOf mroundFrom mouts nm mfromHour mtoHour ns mfrom mto msort misFault mdeep mcoded mlines nl nc nF np ntr nb mbestCost nso nsi nit nsh nsf nss nrc jr jd mnumber mwhose msize misParted fnrc (by omega) (by omega)) si_X12_363 [0, 1] [] rfl rfl (by decide) rfl (by decide) (by decide) rfl rfl rfl rfl rfl (Nat.le_of_ble_eq_true rfl) ⟨Nat.le_of_ble_eq_true rfl, Nat.le_of_ble_eq_true rfl⟩ ⟨Nat.le_of_ble_eq_true rfl, Nat.le_of_ble_eq_true rfl⟩ dX12_bodyFrom_27 (fun r6110 u6111 H locs hr6110 hP hD hS => ?_)
  obtain ⟨jr16112, ip16113, gtrc6114⟩ := u6111
  try dsimp only at hr6110
  have hP : va_P G.1 vwCl [(h0, .inr (12, [.ref nw, .ref nk, .int mhasKept, .ref nt, .int mtaped, .ref nr, .int mrowMany, .int mroundOf, .int mroundFrom, .int mouts, .ref nm, .int mfromHour, .int mtoHour, .ref ns, .int mfrom, .int mto, .int msort, .int misFault, .int mdeep, .int mcoded, .int mlines, .ref nl, .ref nc, .ref nF, .ref np, .ref ntr, .ref nb, .int mbestCost, .ref nso, .ref nsi, .ref nit, .ref nsh, .ref nsf, .ref nss, .ref nrc, .int (nI jr16112), .int (nI jd), .int mnumber, .int mwhose, .int msize, .int ip16113])), (nrc, .inl (G.2.1, 30, .inl gtrc6114))] H := hP
  have hD : va_D A [(h0, .inr (12, [.ref nw, .ref nk, .int mhasKept, .ref nt, .int mtaped, .ref nr, .int mrowMany, .int mroundOf, .int mroundFrom, .int mouts, .ref nm, .int mfromHour, .int mtoHour, .ref ns, .int mfrom, .int mto, .int msort, .int misFault, .int mdeep, .int mcoded, .int mlines, .ref nl, .ref nc, .ref nF, .ref np, .ref ntr, .ref nb, .int mbestCost, .ref nso, .ref nsi, .ref nit, .ref nsh, .ref nsf, .ref nss, .ref nrc, .int (nI jr16112), .int (nI jd), .int mnumber, .int mwhose, .int msize, .int ip16113])), (nrc, .inl (G.2.1, 30, .inl gtrc6114))] := hD
  obtain ⟨hr6110, w6115⟩ := hr6110
  exact RI (v := r6110) hC hP hD hS [0, 1] (jr16112, ip16113, gtrc6114) rfl rfl (by decide) (⟨trivial, by omega⟩) rfl dX12_bodyFrom_30
set_option maxHeartbeats 4000000 in
set_option maxRecDepth 100000 in
theorem m_from62 (l : Launch) (G : GG) (h0 : Nat) (xx : Int32) (nw : Nat) (nk : Nat) (mhasKept : Int32) (nt : Nat) (mtaped : Int32) (nr : Nat) (mrowMany : Int32) (mroundOf : Int32) (mroundFrom : Int32) (mouts : Int32) (nm : Nat) (mfromHour : Int32) (mtoHour : Int32) (ns : Nat) (mfrom : Int32) (mto : Int32) (msort : Int32) (misFault : Int32) (mdeep : Int32) (mcoded : Int32) (mlines : Int32) (nl : Nat) (nc : Nat) (nF : Nat) (np : Nat) (ntr : Nat) (nb : Nat) (mbestCost : Int32) (nso : Nat) (nsi : Nat) (nit : Nat) (nsh : Nat) (nsf : Nat) (nss : Nat) (nrc : Nat) (jr : Nat) (jd : Nat) (mnumber : Int32) (mwhose : Int32) (msize : Int32) (misParted : Int32) (fnrc : Nat → Int32) (hjr : jr ≤ 30) (hjd : jd < 7) : MI l G yX12_bodyFrom cX12_bodyFrom 5 (some .int) 36 0 0 [.ref h0, .int 6, .int 2, .int xx] [(h0, .inr (12, [.ref nw, .ref nk, .int mhasKept, .ref nt, .int mtaped, .ref nr, .int mrowMany, .int mroundOf, .int mroundFrom, .int mouts, .ref nm, .int mfromHour, .int mtoHour, .ref ns, .int mfrom, .int mto, .int msort, .int misFault, .int mdeep, .int mcoded, .int mlines, .ref nl, .ref nc, .ref nF, .ref np, .ref ntr, .ref nb, .int mbestCost, .ref nso, .ref nsi, .ref nit, .ref nsh, .ref nsf, .ref nss, .ref nrc, .int (nI jr), .int (nI jd), .int mnumber, .int mwhose, .int msize, .int misParted])), (nrc, .inl (G.2.1, 30, .inl fnrc))] (fun (r : Int32) (u : Nat × Int32 × (Nat → Int32)) => (True) ∧ (u.1 ≤ 30)) (fun u : Nat × Int32 × (Nat → Int32) => [(h0, .inr (12, [.ref nw, .ref nk, .int mhasKept, .ref nt, .int mtaped, .ref nr, .int mrowMany, .int mroundOf, .int mroundFrom, .int mouts, .ref nm, .int mfromHour, .int mtoHour, .ref ns, .int mfrom, .int mto, .int msort, .int misFault, .int mdeep, .int mcoded, .int mlines, .ref nl, .ref nc, .ref nF, .ref np, .ref ntr, .ref nb, .int mbestCost, .ref nso, .ref nsi, .ref nit, .ref nsh, .ref nsf, .ref nss, .ref nrc, .int (nI u.1), .int (nI jd), .int mnumber, .int mwhose, .int msize, .int u.2.1])), (nrc, .inl (G.2.1, 30, .inl u.2.2))]) := by
  refine MI.start (by decide +kernel) (Nat.le_of_ble_eq_true rfl) ?_
  intro p e s m below meth c A ls hC hK hP hD hS hA hl
  have hl : lv_has ls 5 [(0, .ref h0), (1, .int 6), (2, .int 2), (3, .int xx)] := hl
  obtain ⟨hx, hb, hr, hml, hB, hown, hlocks, hnm⟩ := id hC
  refine lv_iload_n hx hb dX12_bodyFrom_0 rfl (lv_at hl 1 rfl) ?_
  refine lv_istore (lv' := [(4, .int 6), (0, .ref h0), (1, .int 6), (2, .int 2), (3, .int xx)]) hx hb dX12_bodyFrom_1 hl (by decide) rfl (fun ls hl => ?_)
  refine lv_iload hx hb dX12_bodyFrom_3 (lv_at hl 0 rfl) ?_
  refine lv_iload_n hx hb dX12_bodyFrom_5 rfl (lv_at hl 3 rfl) ?_
  refine pS hC hK hl (m_hasOwn62 l G) si_X12_360 rfl rfl (Nat.le_of_ble_eq_true rfl) ⟨Nat.le_of_ble_eq_true rfl, Nat.le_of_ble_eq_true rfl⟩ ⟨by first | exact Nat.le_of_ble_eq_true rfl | exact Nat.zero_le _, by first | exact Nat.le_of_ble_eq_true rfl | exact Nat.zero_le _⟩ dX12_bodyFrom_6 (fun r6116 hr6116 => ?_)
  obtain rfl := hr6116
  refine lv_if_ne (tgt := 22) hx hb dX12_bodyFrom_9 (by decide) (fun c9 => absurd (by decide) c9) (fun _ => ?_)
  refine lv_iload hx hb dX12_bodyFrom_12 (lv_at hl 0 rfl) ?_
  refine pS hC hK hl (m_above6 l G) si_X12_348 rfl rfl (Nat.le_of_ble_eq_true rfl) ⟨Nat.le_of_ble_eq_true rfl, Nat.le_of_ble_eq_true rfl⟩ ⟨by first | exact Nat.le_of_ble_eq_true rfl | exact Nat.zero_le _, by first | exact Nat.le_of_ble_eq_true rfl | exact Nat.zero_le _⟩ dX12_bodyFrom_14 (fun r6118 hr6118 => ?_)
  obtain rfl := hr6118
  refine lv_istore (lv' := [(4, .int 0), (0, .ref h0), (1, .int 6), (2, .int 2), (3, .int xx)]) hx hb dX12_bodyFrom_17 hl (by decide) rfl (fun ls hl => ?_)
  refine lv_goto (tgt := 3) hx hb dX12_bodyFrom_19 (by decide) ?_
  refine lv_iload hx hb dX12_bodyFrom_3 (lv_at hl 0 rfl) ?_
  refine lv_iload_n hx hb dX12_bodyFrom_5 rfl (lv_at hl 3 rfl) ?_
  refine pS hC hK hl (m_hasOwn02 l G) si_X12_360 rfl rfl (Nat.le_of_ble_eq_true rfl) ⟨Nat.le_of_ble_eq_true rfl, Nat.le_of_ble_eq_true rfl⟩ ⟨by first | exact Nat.le_of_ble_eq_true rfl | exact Nat.zero_le _, by first | exact Nat.le_of_ble_eq_true rfl | exact Nat.zero_le _⟩ dX12_bodyFrom_6 (fun r6120 hr6120 => ?_)
  obtain rfl := hr6120
  refine lv_if_ne (tgt := 22) hx hb dX12_bodyFrom_9 (by decide) (fun _ => ?_) (fun c9 => absurd c9 (by decide))
  refine lv_aload_n hx hb dX12_bodyFrom_22 rfl (lv_at hl 1 rfl) ?_
  refine lv_iload hx hb dX12_bodyFrom_23 (lv_at hl 0 rfl) ?_
  refine lv_iload_n hx hb dX12_bodyFrom_25 rfl (lv_at hl 3 rfl) ?_
  refine lv_iload_n hx hb dX12_bodyFrom_26 rfl (lv_at hl 4 rfl) ?_
  refine iV (wr := []) hC hK hl hP hD hS hA (m_body02 l G h0 xx nw nk mhasKept nt mtaped nr mrowMany mroundOf mroundFrom mouts nm mfromHour mtoHour ns mfrom mto msort misFault mdeep mcoded mlines nl nc nF np ntr nb mbestCost nso nsi nit nsh nsf nss nrc jr jd mnumber mwhose msize misParted fnrc (by omega) (by omega)) si_X12_363 [0, 1] [] rfl rfl (by decide) rfl (by decide) (by decide) rfl rfl rfl rfl rfl (Nat.le_of_ble_eq_true rfl) ⟨Nat.le_of_ble_eq_true rfl, Nat.le_of_ble_eq_true rfl⟩ ⟨Nat.le_of_ble_eq_true rfl, Nat.le_of_ble_eq_true rfl⟩ dX12_bodyFrom_27 (fun r6122 u6123 H locs hr6122 hP hD hS => ?_)
  obtain ⟨jr16124, ip16125, gtrc6126⟩ := u6123
  try dsimp only at hr6122
  have hP : va_P G.1 vwCl [(h0, .inr (12, [.ref nw, .ref nk, .int mhasKept, .ref nt, .int mtaped, .ref nr, .int mrowMany, .int mroundOf, .int mroundFrom, .int mouts, .ref nm, .int mfromHour, .int mtoHour, .ref ns, .int mfrom, .int mto, .int msort, .int misFault, .int mdeep, .int mcoded, .int mlines, .ref nl, .ref nc, .ref nF, .ref np, .ref ntr, .ref nb, .int mbestCost, .ref nso, .ref nsi, .ref nit, .ref nsh, .ref nsf, .ref nss, .ref nrc, .int (nI jr16124), .int (nI jd), .int mnumber, .int mwhose, .int msize, .int ip16125])), (nrc, .inl (G.2.1, 30, .inl gtrc6126))] H := hP
  have hD : va_D A [(h0, .inr (12, [.ref nw, .ref nk, .int mhasKept, .ref nt, .int mtaped, .ref nr, .int mrowMany, .int mroundOf, .int mroundFrom, .int mouts, .ref nm, .int mfromHour, .int mtoHour, .ref ns, .int mfrom, .int mto, .int msort, .int misFault, .int mdeep, .int mcoded, .int mlines, .ref nl, .ref nc, .ref nF, .ref np, .ref ntr, .ref nb, .int mbestCost, .ref nso, .ref nsi, .ref nit, .ref nsh, .ref nsf, .ref nss, .ref nrc, .int (nI jr16124), .int (nI jd), .int mnumber, .int mwhose, .int msize, .int ip16125])), (nrc, .inl (G.2.1, 30, .inl gtrc6126))] := hD
  obtain ⟨hr6122, w6127⟩ := hr6122
  exact RI (v := r6122) hC hP hD hS [0, 1] (jr16124, ip16125, gtrc6126) rfl rfl (by decide) (⟨trivial, by omega⟩) rfl dX12_bodyFrom_30
set_option maxHeartbeats 4000000 in
set_option maxRecDepth 100000 in
theorem m_dealt2 (l : Launch) (G : GG) (h0 : Nat) (xx : Int32) (nw : Nat) (nk : Nat) (mhasKept : Int32) (nt : Nat) (mtaped : Int32) (nr : Nat) (mrowMany : Int32) (mroundOf : Int32) (mroundFrom : Int32) (mouts : Int32) (nm : Nat) (mfromHour : Int32) (mtoHour : Int32) (ns : Nat) (mfrom : Int32) (mto : Int32) (msort : Int32) (misFault : Int32) (mdeep : Int32) (mcoded : Int32) (mlines : Int32) (nl : Nat) (nc : Nat) (nF : Nat) (np : Nat) (ntr : Nat) (nb : Nat) (mbestCost : Int32) (nso : Nat) (nsi : Nat) (nit : Nat) (nsh : Nat) (nsf : Nat) (nss : Nat) (nrc : Nat) (jr : Nat) (jd : Nat) (mnumber : Int32) (mwhose : Int32) (msize : Int32) (misParted : Int32) (fnrc : Nat → Int32) (hjr : jr ≤ 30) (hjd : jd < 7) : MI l G yX12_dealt cX12_dealt 3 (some .int) 38 0 0 [.ref h0, .int 2, .int xx] [(h0, .inr (12, [.ref nw, .ref nk, .int mhasKept, .ref nt, .int mtaped, .ref nr, .int mrowMany, .int mroundOf, .int mroundFrom, .int mouts, .ref nm, .int mfromHour, .int mtoHour, .ref ns, .int mfrom, .int mto, .int msort, .int misFault, .int mdeep, .int mcoded, .int mlines, .ref nl, .ref nc, .ref nF, .ref np, .ref ntr, .ref nb, .int mbestCost, .ref nso, .ref nsi, .ref nit, .ref nsh, .ref nsf, .ref nss, .ref nrc, .int (nI jr), .int (nI jd), .int mnumber, .int mwhose, .int msize, .int misParted])), (nrc, .inl (G.2.1, 30, .inl fnrc))] (fun (r : Int32) (u : Nat × Int32 × (Nat → Int32)) => (True) ∧ (u.1 ≤ 30)) (fun u : Nat × Int32 × (Nat → Int32) => [(h0, .inr (12, [.ref nw, .ref nk, .int mhasKept, .ref nt, .int mtaped, .ref nr, .int mrowMany, .int mroundOf, .int mroundFrom, .int mouts, .ref nm, .int mfromHour, .int mtoHour, .ref ns, .int mfrom, .int mto, .int msort, .int misFault, .int mdeep, .int mcoded, .int mlines, .ref nl, .ref nc, .ref nF, .ref np, .ref ntr, .ref nb, .int mbestCost, .ref nso, .ref nsi, .ref nit, .ref nsh, .ref nsf, .ref nss, .ref nrc, .int (nI u.1), .int (nI jd), .int mnumber, .int mwhose, .int msize, .int u.2.1])), (nrc, .inl (G.2.1, 30, .inl u.2.2))]) := by
  refine MI.start (by decide +kernel) (Nat.le_of_ble_eq_true rfl) ?_
  intro p e s m below meth c A ls hC hK hP hD hS hA hl
  have hl : lv_has ls 3 [(0, .ref h0), (1, .int 2), (2, .int xx)] := hl
  obtain ⟨hx, hb, hr, hml, hB, hown, hlocks, hnm⟩ := id hC
  refine lv_aload_n hx hb dX12_dealt_0 rfl (lv_at hl 0 rfl) ?_
  refine lv_aload_n hx hb dX12_dealt_1 rfl (lv_at hl 0 rfl) ?_
  refine gf_X12_354 hC rfl hK hP 0 rfl rfl dX12_dealt_2 ?_
  refine lv_iload_n hx hb dX12_dealt_5 rfl (lv_at hl 1 rfl) ?_
  refine lv_iload_n hx hb dX12_dealt_6 rfl (lv_at hl 2 rfl) ?_
  rcases (show jd = 0 ∨ jd = 1 ∨ jd = 2 ∨ jd = 3 ∨ jd = 4 ∨ jd = 5 ∨ jd = 6 by omega) with rfl | rfl | rfl | rfl | rfl | rfl | rfl
  · refine iV (wr := []) hC hK hl hP hD hS hA (m_from02 l G h0 xx nw nk mhasKept nt mtaped nr mrowMany mroundOf mroundFrom mouts nm mfromHour mtoHour ns mfrom mto msort misFault mdeep mcoded mlines nl nc nF np ntr nb mbestCost nso nsi nit nsh nsf nss nrc jr 0 mnumber mwhose msize misParted fnrc (by omega) (by omega)) si_X12_357 [0, 1] [] rfl rfl (by decide) rfl (by decide) (by decide) rfl rfl rfl rfl rfl (Nat.le_of_ble_eq_true rfl) ⟨Nat.le_of_ble_eq_true rfl, Nat.le_of_ble_eq_true rfl⟩ ⟨Nat.le_of_ble_eq_true rfl, Nat.le_of_ble_eq_true rfl⟩ dX12_dealt_7 (fun r6128 u6129 H locs hr6128 hP hD hS => ?_)
    obtain ⟨jr16130, ip16131, gtrc6132⟩ := u6129
    try dsimp only at hr6128
    have hP : va_P G.1 vwCl [(h0, .inr (12, [.ref nw, .ref nk, .int mhasKept, .ref nt, .int mtaped, .ref nr, .int mrowMany, .int mroundOf, .int mroundFrom, .int mouts, .ref nm, .int mfromHour, .int mtoHour, .ref ns, .int mfrom, .int mto, .int msort, .int misFault, .int mdeep, .int mcoded, .int mlines, .ref nl, .ref nc, .ref nF, .ref np, .ref ntr, .ref nb, .int mbestCost, .ref nso, .ref nsi, .ref nit, .ref nsh, .ref nsf, .ref nss, .ref nrc, .int (nI jr16130), .int 0, .int mnumber, .int mwhose, .int msize, .int ip16131])), (nrc, .inl (G.2.1, 30, .inl gtrc6132))] H := hP
    have hD : va_D A [(h0, .inr (12, [.ref nw, .ref nk, .int mhasKept, .ref nt, .int mtaped, .ref nr, .int mrowMany, .int mroundOf, .int mroundFrom, .int mouts, .ref nm, .int mfromHour, .int mtoHour, .ref ns, .int mfrom, .int mto, .int msort, .int misFault, .int mdeep, .int mcoded, .int mlines, .ref nl, .ref nc, .ref nF, .ref np, .ref ntr, .ref nb, .int mbestCost, .ref nso, .ref nsi, .ref nit, .ref nsh, .ref nsf, .ref nss, .ref nrc, .int (nI jr16130), .int 0, .int mnumber, .int mwhose, .int msize, .int ip16131])), (nrc, .inl (G.2.1, 30, .inl gtrc6132))] := hD
    obtain ⟨hr6128, w6133⟩ := hr6128
    exact RI (v := r6128) hC hP hD hS [0, 1] (jr16130, ip16131, gtrc6132) rfl rfl (by decide) (⟨trivial, by omega⟩) rfl dX12_dealt_10
  · refine iV (wr := []) hC hK hl hP hD hS hA (m_from12 l G h0 xx nw nk mhasKept nt mtaped nr mrowMany mroundOf mroundFrom mouts nm mfromHour mtoHour ns mfrom mto msort misFault mdeep mcoded mlines nl nc nF np ntr nb mbestCost nso nsi nit nsh nsf nss nrc jr 1 mnumber mwhose msize misParted fnrc (by omega) (by omega)) si_X12_357 [0, 1] [] rfl rfl (by decide) rfl (by decide) (by decide) rfl rfl rfl rfl rfl (Nat.le_of_ble_eq_true rfl) ⟨Nat.le_of_ble_eq_true rfl, Nat.le_of_ble_eq_true rfl⟩ ⟨Nat.le_of_ble_eq_true rfl, Nat.le_of_ble_eq_true rfl⟩ dX12_dealt_7 (fun r6134 u6135 H locs hr6134 hP hD hS => ?_)
    obtain ⟨jr16136, ip16137, gtrc6138⟩ := u6135
    try dsimp only at hr6134
    have hP : va_P G.1 vwCl [(h0, .inr (12, [.ref nw, .ref nk, .int mhasKept, .ref nt, .int mtaped, .ref nr, .int mrowMany, .int mroundOf, .int mroundFrom, .int mouts, .ref nm, .int mfromHour, .int mtoHour, .ref ns, .int mfrom, .int mto, .int msort, .int misFault, .int mdeep, .int mcoded, .int mlines, .ref nl, .ref nc, .ref nF, .ref np, .ref ntr, .ref nb, .int mbestCost, .ref nso, .ref nsi, .ref nit, .ref nsh, .ref nsf, .ref nss, .ref nrc, .int (nI jr16136), .int 1, .int mnumber, .int mwhose, .int msize, .int ip16137])), (nrc, .inl (G.2.1, 30, .inl gtrc6138))] H := hP
    have hD : va_D A [(h0, .inr (12, [.ref nw, .ref nk, .int mhasKept, .ref nt, .int mtaped, .ref nr, .int mrowMany, .int mroundOf, .int mroundFrom, .int mouts, .ref nm, .int mfromHour, .int mtoHour, .ref ns, .int mfrom, .int mto, .int msort, .int misFault, .int mdeep, .int mcoded, .int mlines, .ref nl, .ref nc, .ref nF, .ref np, .ref ntr, .ref nb, .int mbestCost, .ref nso, .ref nsi, .ref nit, .ref nsh, .ref nsf, .ref nss, .ref nrc, .int (nI jr16136), .int 1, .int mnumber, .int mwhose, .int msize, .int ip16137])), (nrc, .inl (G.2.1, 30, .inl gtrc6138))] := hD
    obtain ⟨hr6134, w6139⟩ := hr6134
    exact RI (v := r6134) hC hP hD hS [0, 1] (jr16136, ip16137, gtrc6138) rfl rfl (by decide) (⟨trivial, by omega⟩) rfl dX12_dealt_10
  · refine iV (wr := []) hC hK hl hP hD hS hA (m_from22 l G h0 xx nw nk mhasKept nt mtaped nr mrowMany mroundOf mroundFrom mouts nm mfromHour mtoHour ns mfrom mto msort misFault mdeep mcoded mlines nl nc nF np ntr nb mbestCost nso nsi nit nsh nsf nss nrc jr 2 mnumber mwhose msize misParted fnrc (by omega) (by omega)) si_X12_357 [0, 1] [] rfl rfl (by decide) rfl (by decide) (by decide) rfl rfl rfl rfl rfl (Nat.le_of_ble_eq_true rfl) ⟨Nat.le_of_ble_eq_true rfl, Nat.le_of_ble_eq_true rfl⟩ ⟨Nat.le_of_ble_eq_true rfl, Nat.le_of_ble_eq_true rfl⟩ dX12_dealt_7 (fun r6140 u6141 H locs hr6140 hP hD hS => ?_)
    obtain ⟨jr16142, ip16143, gtrc6144⟩ := u6141
    try dsimp only at hr6140
    have hP : va_P G.1 vwCl [(h0, .inr (12, [.ref nw, .ref nk, .int mhasKept, .ref nt, .int mtaped, .ref nr, .int mrowMany, .int mroundOf, .int mroundFrom, .int mouts, .ref nm, .int mfromHour, .int mtoHour, .ref ns, .int mfrom, .int mto, .int msort, .int misFault, .int mdeep, .int mcoded, .int mlines, .ref nl, .ref nc, .ref nF, .ref np, .ref ntr, .ref nb, .int mbestCost, .ref nso, .ref nsi, .ref nit, .ref nsh, .ref nsf, .ref nss, .ref nrc, .int (nI jr16142), .int 2, .int mnumber, .int mwhose, .int msize, .int ip16143])), (nrc, .inl (G.2.1, 30, .inl gtrc6144))] H := hP
    have hD : va_D A [(h0, .inr (12, [.ref nw, .ref nk, .int mhasKept, .ref nt, .int mtaped, .ref nr, .int mrowMany, .int mroundOf, .int mroundFrom, .int mouts, .ref nm, .int mfromHour, .int mtoHour, .ref ns, .int mfrom, .int mto, .int msort, .int misFault, .int mdeep, .int mcoded, .int mlines, .ref nl, .ref nc, .ref nF, .ref np, .ref ntr, .ref nb, .int mbestCost, .ref nso, .ref nsi, .ref nit, .ref nsh, .ref nsf, .ref nss, .ref nrc, .int (nI jr16142), .int 2, .int mnumber, .int mwhose, .int msize, .int ip16143])), (nrc, .inl (G.2.1, 30, .inl gtrc6144))] := hD
    obtain ⟨hr6140, w6145⟩ := hr6140
    exact RI (v := r6140) hC hP hD hS [0, 1] (jr16142, ip16143, gtrc6144) rfl rfl (by decide) (⟨trivial, by omega⟩) rfl dX12_dealt_10
  · refine iV (wr := []) hC hK hl hP hD hS hA (m_from32 l G h0 xx nw nk mhasKept nt mtaped nr mrowMany mroundOf mroundFrom mouts nm mfromHour mtoHour ns mfrom mto msort misFault mdeep mcoded mlines nl nc nF np ntr nb mbestCost nso nsi nit nsh nsf nss nrc jr 3 mnumber mwhose msize misParted fnrc (by omega) (by omega)) si_X12_357 [0, 1] [] rfl rfl (by decide) rfl (by decide) (by decide) rfl rfl rfl rfl rfl (Nat.le_of_ble_eq_true rfl) ⟨Nat.le_of_ble_eq_true rfl, Nat.le_of_ble_eq_true rfl⟩ ⟨Nat.le_of_ble_eq_true rfl, Nat.le_of_ble_eq_true rfl⟩ dX12_dealt_7 (fun r6146 u6147 H locs hr6146 hP hD hS => ?_)
    obtain ⟨jr16148, ip16149, gtrc6150⟩ := u6147
    try dsimp only at hr6146
    have hP : va_P G.1 vwCl [(h0, .inr (12, [.ref nw, .ref nk, .int mhasKept, .ref nt, .int mtaped, .ref nr, .int mrowMany, .int mroundOf, .int mroundFrom, .int mouts, .ref nm, .int mfromHour, .int mtoHour, .ref ns, .int mfrom, .int mto, .int msort, .int misFault, .int mdeep, .int mcoded, .int mlines, .ref nl, .ref nc, .ref nF, .ref np, .ref ntr, .ref nb, .int mbestCost, .ref nso, .ref nsi, .ref nit, .ref nsh, .ref nsf, .ref nss, .ref nrc, .int (nI jr16148), .int 3, .int mnumber, .int mwhose, .int msize, .int ip16149])), (nrc, .inl (G.2.1, 30, .inl gtrc6150))] H := hP
    have hD : va_D A [(h0, .inr (12, [.ref nw, .ref nk, .int mhasKept, .ref nt, .int mtaped, .ref nr, .int mrowMany, .int mroundOf, .int mroundFrom, .int mouts, .ref nm, .int mfromHour, .int mtoHour, .ref ns, .int mfrom, .int mto, .int msort, .int misFault, .int mdeep, .int mcoded, .int mlines, .ref nl, .ref nc, .ref nF, .ref np, .ref ntr, .ref nb, .int mbestCost, .ref nso, .ref nsi, .ref nit, .ref nsh, .ref nsf, .ref nss, .ref nrc, .int (nI jr16148), .int 3, .int mnumber, .int mwhose, .int msize, .int ip16149])), (nrc, .inl (G.2.1, 30, .inl gtrc6150))] := hD
    obtain ⟨hr6146, w6151⟩ := hr6146
    exact RI (v := r6146) hC hP hD hS [0, 1] (jr16148, ip16149, gtrc6150) rfl rfl (by decide) (⟨trivial, by omega⟩) rfl dX12_dealt_10
  · refine iV (wr := []) hC hK hl hP hD hS hA (m_from42 l G h0 xx nw nk mhasKept nt mtaped nr mrowMany mroundOf mroundFrom mouts nm mfromHour mtoHour ns mfrom mto msort misFault mdeep mcoded mlines nl nc nF np ntr nb mbestCost nso nsi nit nsh nsf nss nrc jr 4 mnumber mwhose msize misParted fnrc (by omega) (by omega)) si_X12_357 [0, 1] [] rfl rfl (by decide) rfl (by decide) (by decide) rfl rfl rfl rfl rfl (Nat.le_of_ble_eq_true rfl) ⟨Nat.le_of_ble_eq_true rfl, Nat.le_of_ble_eq_true rfl⟩ ⟨Nat.le_of_ble_eq_true rfl, Nat.le_of_ble_eq_true rfl⟩ dX12_dealt_7 (fun r6152 u6153 H locs hr6152 hP hD hS => ?_)
    obtain ⟨jr16154, ip16155, gtrc6156⟩ := u6153
    try dsimp only at hr6152
    have hP : va_P G.1 vwCl [(h0, .inr (12, [.ref nw, .ref nk, .int mhasKept, .ref nt, .int mtaped, .ref nr, .int mrowMany, .int mroundOf, .int mroundFrom, .int mouts, .ref nm, .int mfromHour, .int mtoHour, .ref ns, .int mfrom, .int mto, .int msort, .int misFault, .int mdeep, .int mcoded, .int mlines, .ref nl, .ref nc, .ref nF, .ref np, .ref ntr, .ref nb, .int mbestCost, .ref nso, .ref nsi, .ref nit, .ref nsh, .ref nsf, .ref nss, .ref nrc, .int (nI jr16154), .int 4, .int mnumber, .int mwhose, .int msize, .int ip16155])), (nrc, .inl (G.2.1, 30, .inl gtrc6156))] H := hP
    have hD : va_D A [(h0, .inr (12, [.ref nw, .ref nk, .int mhasKept, .ref nt, .int mtaped, .ref nr, .int mrowMany, .int mroundOf, .int mroundFrom, .int mouts, .ref nm, .int mfromHour, .int mtoHour, .ref ns, .int mfrom, .int mto, .int msort, .int misFault, .int mdeep, .int mcoded, .int mlines, .ref nl, .ref nc, .ref nF, .ref np, .ref ntr, .ref nb, .int mbestCost, .ref nso, .ref nsi, .ref nit, .ref nsh, .ref nsf, .ref nss, .ref nrc, .int (nI jr16154), .int 4, .int mnumber, .int mwhose, .int msize, .int ip16155])), (nrc, .inl (G.2.1, 30, .inl gtrc6156))] := hD
    obtain ⟨hr6152, w6157⟩ := hr6152
    exact RI (v := r6152) hC hP hD hS [0, 1] (jr16154, ip16155, gtrc6156) rfl rfl (by decide) (⟨trivial, by omega⟩) rfl dX12_dealt_10
  · refine iV (wr := []) hC hK hl hP hD hS hA (m_from52 l G h0 xx nw nk mhasKept nt mtaped nr mrowMany mroundOf mroundFrom mouts nm mfromHour mtoHour ns mfrom mto msort misFault mdeep mcoded mlines nl nc nF np ntr nb mbestCost nso nsi nit nsh nsf nss nrc jr 5 mnumber mwhose msize misParted fnrc (by omega) (by omega)) si_X12_357 [0, 1] [] rfl rfl (by decide) rfl (by decide) (by decide) rfl rfl rfl rfl rfl (Nat.le_of_ble_eq_true rfl) ⟨Nat.le_of_ble_eq_true rfl, Nat.le_of_ble_eq_true rfl⟩ ⟨Nat.le_of_ble_eq_true rfl, Nat.le_of_ble_eq_true rfl⟩ dX12_dealt_7 (fun r6158 u6159 H locs hr6158 hP hD hS => ?_)
    obtain ⟨jr16160, ip16161, gtrc6162⟩ := u6159
    try dsimp only at hr6158
    have hP : va_P G.1 vwCl [(h0, .inr (12, [.ref nw, .ref nk, .int mhasKept, .ref nt, .int mtaped, .ref nr, .int mrowMany, .int mroundOf, .int mroundFrom, .int mouts, .ref nm, .int mfromHour, .int mtoHour, .ref ns, .int mfrom, .int mto, .int msort, .int misFault, .int mdeep, .int mcoded, .int mlines, .ref nl, .ref nc, .ref nF, .ref np, .ref ntr, .ref nb, .int mbestCost, .ref nso, .ref nsi, .ref nit, .ref nsh, .ref nsf, .ref nss, .ref nrc, .int (nI jr16160), .int 5, .int mnumber, .int mwhose, .int msize, .int ip16161])), (nrc, .inl (G.2.1, 30, .inl gtrc6162))] H := hP
    have hD : va_D A [(h0, .inr (12, [.ref nw, .ref nk, .int mhasKept, .ref nt, .int mtaped, .ref nr, .int mrowMany, .int mroundOf, .int mroundFrom, .int mouts, .ref nm, .int mfromHour, .int mtoHour, .ref ns, .int mfrom, .int mto, .int msort, .int misFault, .int mdeep, .int mcoded, .int mlines, .ref nl, .ref nc, .ref nF, .ref np, .ref ntr, .ref nb, .int mbestCost, .ref nso, .ref nsi, .ref nit, .ref nsh, .ref nsf, .ref nss, .ref nrc, .int (nI jr16160), .int 5, .int mnumber, .int mwhose, .int msize, .int ip16161])), (nrc, .inl (G.2.1, 30, .inl gtrc6162))] := hD
    obtain ⟨hr6158, w6163⟩ := hr6158
    exact RI (v := r6158) hC hP hD hS [0, 1] (jr16160, ip16161, gtrc6162) rfl rfl (by decide) (⟨trivial, by omega⟩) rfl dX12_dealt_10
  · refine iV (wr := []) hC hK hl hP hD hS hA (m_from62 l G h0 xx nw nk mhasKept nt mtaped nr mrowMany mroundOf mroundFrom mouts nm mfromHour mtoHour ns mfrom mto msort misFault mdeep mcoded mlines nl nc nF np ntr nb mbestCost nso nsi nit nsh nsf nss nrc jr 6 mnumber mwhose msize misParted fnrc (by omega) (by omega)) si_X12_357 [0, 1] [] rfl rfl (by decide) rfl (by decide) (by decide) rfl rfl rfl rfl rfl (Nat.le_of_ble_eq_true rfl) ⟨Nat.le_of_ble_eq_true rfl, Nat.le_of_ble_eq_true rfl⟩ ⟨Nat.le_of_ble_eq_true rfl, Nat.le_of_ble_eq_true rfl⟩ dX12_dealt_7 (fun r6164 u6165 H locs hr6164 hP hD hS => ?_)
    obtain ⟨jr16166, ip16167, gtrc6168⟩ := u6165
    try dsimp only at hr6164
    have hP : va_P G.1 vwCl [(h0, .inr (12, [.ref nw, .ref nk, .int mhasKept, .ref nt, .int mtaped, .ref nr, .int mrowMany, .int mroundOf, .int mroundFrom, .int mouts, .ref nm, .int mfromHour, .int mtoHour, .ref ns, .int mfrom, .int mto, .int msort, .int misFault, .int mdeep, .int mcoded, .int mlines, .ref nl, .ref nc, .ref nF, .ref np, .ref ntr, .ref nb, .int mbestCost, .ref nso, .ref nsi, .ref nit, .ref nsh, .ref nsf, .ref nss, .ref nrc, .int (nI jr16166), .int 6, .int mnumber, .int mwhose, .int msize, .int ip16167])), (nrc, .inl (G.2.1, 30, .inl gtrc6168))] H := hP
    have hD : va_D A [(h0, .inr (12, [.ref nw, .ref nk, .int mhasKept, .ref nt, .int mtaped, .ref nr, .int mrowMany, .int mroundOf, .int mroundFrom, .int mouts, .ref nm, .int mfromHour, .int mtoHour, .ref ns, .int mfrom, .int mto, .int msort, .int misFault, .int mdeep, .int mcoded, .int mlines, .ref nl, .ref nc, .ref nF, .ref np, .ref ntr, .ref nb, .int mbestCost, .ref nso, .ref nsi, .ref nit, .ref nsh, .ref nsf, .ref nss, .ref nrc, .int (nI jr16166), .int 6, .int mnumber, .int mwhose, .int msize, .int ip16167])), (nrc, .inl (G.2.1, 30, .inl gtrc6168))] := hD
    obtain ⟨hr6164, w6169⟩ := hr6164
    exact RI (v := r6164) hC hP hD hS [0, 1] (jr16166, ip16167, gtrc6168) rfl rfl (by decide) (⟨trivial, by omega⟩) rfl dX12_dealt_10
set_option maxHeartbeats 4000000 in
set_option maxRecDepth 100000 in
theorem m_body03 (l : Launch) (G : GG) (h0 : Nat) (xx : Int32) (nw : Nat) (nk : Nat) (mhasKept : Int32) (nt : Nat) (mtaped : Int32) (nr : Nat) (mrowMany : Int32) (mroundOf : Int32) (mroundFrom : Int32) (mouts : Int32) (nm : Nat) (mfromHour : Int32) (mtoHour : Int32) (ns : Nat) (mfrom : Int32) (mto : Int32) (msort : Int32) (misFault : Int32) (mdeep : Int32) (mcoded : Int32) (mlines : Int32) (nl : Nat) (nc : Nat) (nF : Nat) (np : Nat) (ntr : Nat) (nb : Nat) (mbestCost : Int32) (nso : Nat) (nsi : Nat) (nit : Nat) (nsh : Nat) (nsf : Nat) (nss : Nat) (nrc : Nat) (jr : Nat) (jd : Nat) (mnumber : Int32) (mwhose : Int32) (msize : Int32) (misParted : Int32) (fnrc : Nat → Int32) (hjr : jr ≤ 30) (hjd : jd < 7) : MI l G yX12_body cX12_body 6 (some .int) 39 0 0 [.ref h0, .int 0, .int 3, .int xx] [(h0, .inr (12, [.ref nw, .ref nk, .int mhasKept, .ref nt, .int mtaped, .ref nr, .int mrowMany, .int mroundOf, .int mroundFrom, .int mouts, .ref nm, .int mfromHour, .int mtoHour, .ref ns, .int mfrom, .int mto, .int msort, .int misFault, .int mdeep, .int mcoded, .int mlines, .ref nl, .ref nc, .ref nF, .ref np, .ref ntr, .ref nb, .int mbestCost, .ref nso, .ref nsi, .ref nit, .ref nsh, .ref nsf, .ref nss, .ref nrc, .int (nI jr), .int (nI jd), .int mnumber, .int mwhose, .int msize, .int misParted])), (nrc, .inl (G.2.1, 30, .inl fnrc))] (fun (r : Int32) (u : Nat × Int32 × (Nat → Int32)) => (True) ∧ (u.1 ≤ 30)) (fun u : Nat × Int32 × (Nat → Int32) => [(h0, .inr (12, [.ref nw, .ref nk, .int mhasKept, .ref nt, .int mtaped, .ref nr, .int mrowMany, .int mroundOf, .int mroundFrom, .int mouts, .ref nm, .int mfromHour, .int mtoHour, .ref ns, .int mfrom, .int mto, .int msort, .int misFault, .int mdeep, .int mcoded, .int mlines, .ref nl, .ref nc, .ref nF, .ref np, .ref ntr, .ref nb, .int mbestCost, .ref nso, .ref nsi, .ref nit, .ref nsh, .ref nsf, .ref nss, .ref nrc, .int (nI u.1), .int (nI jd), .int mnumber, .int mwhose, .int msize, .int u.2.1])), (nrc, .inl (G.2.1, 30, .inl u.2.2))]) := by
  refine MI.start (by decide +kernel) (Nat.le_of_ble_eq_true rfl) ?_
  intro p e s m below meth c A ls hC hK hP hD hS hA hl
  have hl : lv_has ls 6 [(0, .ref h0), (1, .int 0), (2, .int 3), (3, .int xx)] := hl
  obtain ⟨hx, hb, hr, hml, hB, hown, hlocks, hnm⟩ := id hC
  refine lv_iconst (v := 4) hx hb dX12_body_0 (by decide) ?_
  refine lv_iload_n hx hb dX12_body_1 rfl (lv_at hl 1 rfl) ?_
  refine lv_imul hx hb dX12_body_2 ?_
  refine eqi (x1 := 0) (by decide) ?_
  refine lv_iload_n hx hb dX12_body_3 rfl (lv_at hl 2 rfl) ?_
  refine lv_iadd hx hb dX12_body_4 ?_
  refine eqi (x1 := 3) (by decide) ?_
  refine lv_tableIn (tgt := 158) hx hb dX12_body_5 (by decide) (by decide) rfl (by decide) ?_
  refine lv_aload_n hx hb dX12_body_158 rfl (lv_at hl 0 rfl) ?_
  refine lv_bipush (v := 13) hx hb dX12_body_159 (by decide) ?_
  refine vV (wr := []) hC hK hl hP hD hS hA (m_began l G h0 13 nw nk mhasKept nt mtaped nr mrowMany mroundOf mroundFrom mouts nm mfromHour mtoHour ns mfrom mto msort misFault mdeep mcoded mlines nl nc nF np ntr nb mbestCost nso nsi nit nsh nsf nss nrc jr (nI jd) mnumber mwhose msize misParted fnrc (by omega)) si_X12_366 [0, 1] [] rfl rfl (by decide) rfl (by decide) (by decide) rfl rfl rfl rfl rfl (Nat.le_of_ble_eq_true rfl) ⟨Nat.le_of_ble_eq_true rfl, Nat.le_of_ble_eq_true rfl⟩ ⟨Nat.le_of_ble_eq_true rfl, Nat.le_of_ble_eq_true rfl⟩ dX12_body_161 (fun u6171 H locs hr6170 hP hD hS => ?_)
  obtain ⟨jr16172, gtrc6173⟩ := u6171
  try dsimp only at hr6170
  have hP : va_P G.1 vwCl [(h0, .inr (12, [.ref nw, .ref nk, .int mhasKept, .ref nt, .int mtaped, .ref nr, .int mrowMany, .int mroundOf, .int mroundFrom, .int mouts, .ref nm, .int mfromHour, .int mtoHour, .ref ns, .int mfrom, .int mto, .int msort, .int misFault, .int mdeep, .int mcoded, .int mlines, .ref nl, .ref nc, .ref nF, .ref np, .ref ntr, .ref nb, .int mbestCost, .ref nso, .ref nsi, .ref nit, .ref nsh, .ref nsf, .ref nss, .ref nrc, .int (nI jr16172), .int (nI jd), .int mnumber, .int mwhose, .int msize, .int misParted])), (nrc, .inl (G.2.1, 30, .inl gtrc6173))] H := hP
  have hD : va_D A [(h0, .inr (12, [.ref nw, .ref nk, .int mhasKept, .ref nt, .int mtaped, .ref nr, .int mrowMany, .int mroundOf, .int mroundFrom, .int mouts, .ref nm, .int mfromHour, .int mtoHour, .ref ns, .int mfrom, .int mto, .int msort, .int misFault, .int mdeep, .int mcoded, .int mlines, .ref nl, .ref nc, .ref nF, .ref np, .ref ntr, .ref nb, .int mbestCost, .ref nso, .ref nsi, .ref nit, .ref nsh, .ref nsf, .ref nss, .ref nrc, .int (nI jr16172), .int (nI jd), .int mnumber, .int mwhose, .int msize, .int misParted])), (nrc, .inl (G.2.1, 30, .inl gtrc6173))] := hD
  have w6174 := hr6170
  refine lv_aload_n hx hb dX12_body_164 rfl (lv_at hl 0 rfl) ?_
  refine lv_aload_n hx hb dX12_body_165 rfl (lv_at hl 0 rfl) ?_
  refine gf_X12_375 hC rfl hK hP 0 rfl rfl dX12_body_166 ?_
  refine lv_aload_n hx hb dX12_body_169 rfl (lv_at hl 0 rfl) ?_
  refine gf_X12_378 hC rfl hK hP 0 rfl rfl dX12_body_170 ?_
  refine lv_icmp_ne (tgt := 180) hx hb dX12_body_173 (by decide) (fun c_173_6175 => ?_) (fun c_173_6175 => ?_)
  · refine lv_iconst (v := 0) hx hb dX12_body_180 (by decide) ?_
    refine pf_X12_380 hC rfl hK hP hD hS 0 (ws' := [(h0, .inr (12, [.ref nw, .ref nk, .int mhasKept, .ref nt, .int mtaped, .ref nr, .int mrowMany, .int mroundOf, .int mroundFrom, .int mouts, .ref nm, .int mfromHour, .int mtoHour, .ref ns, .int mfrom, .int mto, .int msort, .int misFault, .int mdeep, .int mcoded, .int mlines, .ref nl, .ref nc, .ref nF, .ref np, .ref ntr, .ref nb, .int mbestCost, .ref nso, .ref nsi, .ref nit, .ref nsh, .ref nsf, .ref nss, .ref nrc, .int (nI jr16172), .int (nI jd), .int mnumber, .int mwhose, .int msize, .int 0])), (nrc, .inl (G.2.1, 30, .inl gtrc6173))]) rfl (Nat.le_of_ble_eq_true rfl) rfl (by decide +kernel) (by decide +kernel) dX12_body_181 (fun H locs hP hD hS => ?_)
    refine lv_aload_n hx hb dX12_body_184 rfl (lv_at hl 0 rfl) ?_
    refine gf_X12_380 hC rfl hK hP 0 rfl rfl dX12_body_185 ?_
    refine lv_if_eq (tgt := 195) hx hb dX12_body_188 (by decide) (fun _ => ?_) (fun c9 => absurd (by decide) c9)
    refine lv_iload_n hx hb dX12_body_195 rfl (lv_at hl 3 rfl) ?_
    refine lv_aload_n hx hb dX12_body_196 rfl (lv_at hl 0 rfl) ?_
    refine gf_X12_375 hC rfl hK hP 0 rfl rfl dX12_body_197 ?_
    refine lv_aload_n hx hb dX12_body_200 rfl (lv_at hl 0 rfl) ?_
    refine gf_X12_378 hC rfl hK hP 0 rfl rfl dX12_body_201 ?_
    refine lv_isub hx hb dX12_body_204 ?_
    refine lv_idiv hx hb dX12_body_205 (nz_sub c_173_6175) ?_
    refine lv_topi (fun x6176 ex6176 => ?_)
    exact RI (v := x6176) hC hP hD hS [0, 1] (jr16172, 0, gtrc6173) rfl rfl (by decide) (⟨trivial, by omega⟩) rfl dX12_body_206
  · refine lv_iconst (v := 1) hx hb dX12_body_176 (by decide) ?_
    refine lv_goto (tgt := 181) hx hb dX12_body_177 (by decide) ?_
    refine pf_X12_380 hC rfl hK hP hD hS 0 (ws' := [(h0, .inr (12, [.ref nw, .ref nk, .int mhasKept, .ref nt, .int mtaped, .ref nr, .int mrowMany, .int mroundOf, .int mroundFrom, .int mouts, .ref nm, .int mfromHour, .int mtoHour, .ref ns, .int mfrom, .int mto, .int msort, .int misFault, .int mdeep, .int mcoded, .int mlines, .ref nl, .ref nc, .ref nF, .ref np, .ref ntr, .ref nb, .int mbestCost, .ref nso, .ref nsi, .ref nit, .ref nsh, .ref nsf, .ref nss, .ref nrc, .int (nI jr16172), .int (nI jd), .int mnumber, .int mwhose, .int msize, .int 1])), (nrc, .inl (G.2.1, 30, .inl gtrc6173))]) rfl (Nat.le_of_ble_eq_true rfl) rfl (by decide +kernel) (by decide +kernel) dX12_body_181 (fun H locs hP hD hS => ?_)
    refine lv_aload_n hx hb dX12_body_184 rfl (lv_at hl 0 rfl) ?_
    refine gf_X12_380 hC rfl hK hP 0 rfl rfl dX12_body_185 ?_
    refine lv_if_eq (tgt := 195) hx hb dX12_body_188 (by decide) (fun c9 => absurd c9 (by decide)) (fun _ => ?_)
    refine lv_iconst (v := 0) hx hb dX12_body_191 (by decide) ?_
    refine lv_goto (tgt := 206) hx hb dX12_body_192 (by decide) ?_
    exact RI (v := 0) hC hP hD hS [0, 1] (jr16172, 1, gtrc6173) rfl rfl (by decide) (⟨trivial, by omega⟩) rfl dX12_body_206
set_option maxHeartbeats 4000000 in
set_option maxRecDepth 100000 in
theorem m_from03 (l : Launch) (G : GG) (h0 : Nat) (xx : Int32) (nw : Nat) (nk : Nat) (mhasKept : Int32) (nt : Nat) (mtaped : Int32) (nr : Nat) (mrowMany : Int32) (mroundOf : Int32) (mroundFrom : Int32) (mouts : Int32) (nm : Nat) (mfromHour : Int32) (mtoHour : Int32) (ns : Nat) (mfrom : Int32) (mto : Int32) (msort : Int32) (misFault : Int32) (mdeep : Int32) (mcoded : Int32) (mlines : Int32) (nl : Nat) (nc : Nat) (nF : Nat) (np : Nat) (ntr : Nat) (nb : Nat) (mbestCost : Int32) (nso : Nat) (nsi : Nat) (nit : Nat) (nsh : Nat) (nsf : Nat) (nss : Nat) (nrc : Nat) (jr : Nat) (jd : Nat) (mnumber : Int32) (mwhose : Int32) (msize : Int32) (misParted : Int32) (fnrc : Nat → Int32) (hjr : jr ≤ 30) (hjd : jd < 7) : MI l G yX12_bodyFrom cX12_bodyFrom 5 (some .int) 40 0 0 [.ref h0, .int 0, .int 3, .int xx] [(h0, .inr (12, [.ref nw, .ref nk, .int mhasKept, .ref nt, .int mtaped, .ref nr, .int mrowMany, .int mroundOf, .int mroundFrom, .int mouts, .ref nm, .int mfromHour, .int mtoHour, .ref ns, .int mfrom, .int mto, .int msort, .int misFault, .int mdeep, .int mcoded, .int mlines, .ref nl, .ref nc, .ref nF, .ref np, .ref ntr, .ref nb, .int mbestCost, .ref nso, .ref nsi, .ref nit, .ref nsh, .ref nsf, .ref nss, .ref nrc, .int (nI jr), .int (nI jd), .int mnumber, .int mwhose, .int msize, .int misParted])), (nrc, .inl (G.2.1, 30, .inl fnrc))] (fun (r : Int32) (u : Nat × Int32 × (Nat → Int32)) => (True) ∧ (u.1 ≤ 30)) (fun u : Nat × Int32 × (Nat → Int32) => [(h0, .inr (12, [.ref nw, .ref nk, .int mhasKept, .ref nt, .int mtaped, .ref nr, .int mrowMany, .int mroundOf, .int mroundFrom, .int mouts, .ref nm, .int mfromHour, .int mtoHour, .ref ns, .int mfrom, .int mto, .int msort, .int misFault, .int mdeep, .int mcoded, .int mlines, .ref nl, .ref nc, .ref nF, .ref np, .ref ntr, .ref nb, .int mbestCost, .ref nso, .ref nsi, .ref nit, .ref nsh, .ref nsf, .ref nss, .ref nrc, .int (nI u.1), .int (nI jd), .int mnumber, .int mwhose, .int msize, .int u.2.1])), (nrc, .inl (G.2.1, 30, .inl u.2.2))]) := by
  refine MI.start (by decide +kernel) (Nat.le_of_ble_eq_true rfl) ?_
  intro p e s m below meth c A ls hC hK hP hD hS hA hl
  have hl : lv_has ls 5 [(0, .ref h0), (1, .int 0), (2, .int 3), (3, .int xx)] := hl
  obtain ⟨hx, hb, hr, hml, hB, hown, hlocks, hnm⟩ := id hC
  refine lv_iload_n hx hb dX12_bodyFrom_0 rfl (lv_at hl 1 rfl) ?_
  refine lv_istore (lv' := [(4, .int 0), (0, .ref h0), (1, .int 0), (2, .int 3), (3, .int xx)]) hx hb dX12_bodyFrom_1 hl (by decide) rfl (fun ls hl => ?_)
  refine lv_iload hx hb dX12_bodyFrom_3 (lv_at hl 0 rfl) ?_
  refine lv_iload_n hx hb dX12_bodyFrom_5 rfl (lv_at hl 3 rfl) ?_
  refine pS hC hK hl (m_hasOwn03 l G) si_X12_360 rfl rfl (Nat.le_of_ble_eq_true rfl) ⟨Nat.le_of_ble_eq_true rfl, Nat.le_of_ble_eq_true rfl⟩ ⟨by first | exact Nat.le_of_ble_eq_true rfl | exact Nat.zero_le _, by first | exact Nat.le_of_ble_eq_true rfl | exact Nat.zero_le _⟩ dX12_bodyFrom_6 (fun r6177 hr6177 => ?_)
  obtain rfl := hr6177
  refine lv_if_ne (tgt := 22) hx hb dX12_bodyFrom_9 (by decide) (fun _ => ?_) (fun c9 => absurd c9 (by decide))
  refine lv_aload_n hx hb dX12_bodyFrom_22 rfl (lv_at hl 1 rfl) ?_
  refine lv_iload hx hb dX12_bodyFrom_23 (lv_at hl 0 rfl) ?_
  refine lv_iload_n hx hb dX12_bodyFrom_25 rfl (lv_at hl 3 rfl) ?_
  refine lv_iload_n hx hb dX12_bodyFrom_26 rfl (lv_at hl 4 rfl) ?_
  refine iV (wr := []) hC hK hl hP hD hS hA (m_body03 l G h0 xx nw nk mhasKept nt mtaped nr mrowMany mroundOf mroundFrom mouts nm mfromHour mtoHour ns mfrom mto msort misFault mdeep mcoded mlines nl nc nF np ntr nb mbestCost nso nsi nit nsh nsf nss nrc jr jd mnumber mwhose msize misParted fnrc (by omega) (by omega)) si_X12_363 [0, 1] [] rfl rfl (by decide) rfl (by decide) (by decide) rfl rfl rfl rfl rfl (Nat.le_of_ble_eq_true rfl) ⟨Nat.le_of_ble_eq_true rfl, Nat.le_of_ble_eq_true rfl⟩ ⟨Nat.le_of_ble_eq_true rfl, Nat.le_of_ble_eq_true rfl⟩ dX12_bodyFrom_27 (fun r6179 u6180 H locs hr6179 hP hD hS => ?_)
  obtain ⟨jr16181, ip16182, gtrc6183⟩ := u6180
  try dsimp only at hr6179
  have hP : va_P G.1 vwCl [(h0, .inr (12, [.ref nw, .ref nk, .int mhasKept, .ref nt, .int mtaped, .ref nr, .int mrowMany, .int mroundOf, .int mroundFrom, .int mouts, .ref nm, .int mfromHour, .int mtoHour, .ref ns, .int mfrom, .int mto, .int msort, .int misFault, .int mdeep, .int mcoded, .int mlines, .ref nl, .ref nc, .ref nF, .ref np, .ref ntr, .ref nb, .int mbestCost, .ref nso, .ref nsi, .ref nit, .ref nsh, .ref nsf, .ref nss, .ref nrc, .int (nI jr16181), .int (nI jd), .int mnumber, .int mwhose, .int msize, .int ip16182])), (nrc, .inl (G.2.1, 30, .inl gtrc6183))] H := hP
  have hD : va_D A [(h0, .inr (12, [.ref nw, .ref nk, .int mhasKept, .ref nt, .int mtaped, .ref nr, .int mrowMany, .int mroundOf, .int mroundFrom, .int mouts, .ref nm, .int mfromHour, .int mtoHour, .ref ns, .int mfrom, .int mto, .int msort, .int misFault, .int mdeep, .int mcoded, .int mlines, .ref nl, .ref nc, .ref nF, .ref np, .ref ntr, .ref nb, .int mbestCost, .ref nso, .ref nsi, .ref nit, .ref nsh, .ref nsf, .ref nss, .ref nrc, .int (nI jr16181), .int (nI jd), .int mnumber, .int mwhose, .int msize, .int ip16182])), (nrc, .inl (G.2.1, 30, .inl gtrc6183))] := hD
  obtain ⟨hr6179, w6184⟩ := hr6179
  exact RI (v := r6179) hC hP hD hS [0, 1] (jr16181, ip16182, gtrc6183) rfl rfl (by decide) (⟨trivial, by omega⟩) rfl dX12_bodyFrom_30
set_option maxHeartbeats 4000000 in
set_option maxRecDepth 100000 in
theorem m_from13 (l : Launch) (G : GG) (h0 : Nat) (xx : Int32) (nw : Nat) (nk : Nat) (mhasKept : Int32) (nt : Nat) (mtaped : Int32) (nr : Nat) (mrowMany : Int32) (mroundOf : Int32) (mroundFrom : Int32) (mouts : Int32) (nm : Nat) (mfromHour : Int32) (mtoHour : Int32) (ns : Nat) (mfrom : Int32) (mto : Int32) (msort : Int32) (misFault : Int32) (mdeep : Int32) (mcoded : Int32) (mlines : Int32) (nl : Nat) (nc : Nat) (nF : Nat) (np : Nat) (ntr : Nat) (nb : Nat) (mbestCost : Int32) (nso : Nat) (nsi : Nat) (nit : Nat) (nsh : Nat) (nsf : Nat) (nss : Nat) (nrc : Nat) (jr : Nat) (jd : Nat) (mnumber : Int32) (mwhose : Int32) (msize : Int32) (misParted : Int32) (fnrc : Nat → Int32) (hjr : jr ≤ 30) (hjd : jd < 7) : MI l G yX12_bodyFrom cX12_bodyFrom 5 (some .int) 42 0 0 [.ref h0, .int 1, .int 3, .int xx] [(h0, .inr (12, [.ref nw, .ref nk, .int mhasKept, .ref nt, .int mtaped, .ref nr, .int mrowMany, .int mroundOf, .int mroundFrom, .int mouts, .ref nm, .int mfromHour, .int mtoHour, .ref ns, .int mfrom, .int mto, .int msort, .int misFault, .int mdeep, .int mcoded, .int mlines, .ref nl, .ref nc, .ref nF, .ref np, .ref ntr, .ref nb, .int mbestCost, .ref nso, .ref nsi, .ref nit, .ref nsh, .ref nsf, .ref nss, .ref nrc, .int (nI jr), .int (nI jd), .int mnumber, .int mwhose, .int msize, .int misParted])), (nrc, .inl (G.2.1, 30, .inl fnrc))] (fun (r : Int32) (u : Nat × Int32 × (Nat → Int32)) => (True) ∧ (u.1 ≤ 30)) (fun u : Nat × Int32 × (Nat → Int32) => [(h0, .inr (12, [.ref nw, .ref nk, .int mhasKept, .ref nt, .int mtaped, .ref nr, .int mrowMany, .int mroundOf, .int mroundFrom, .int mouts, .ref nm, .int mfromHour, .int mtoHour, .ref ns, .int mfrom, .int mto, .int msort, .int misFault, .int mdeep, .int mcoded, .int mlines, .ref nl, .ref nc, .ref nF, .ref np, .ref ntr, .ref nb, .int mbestCost, .ref nso, .ref nsi, .ref nit, .ref nsh, .ref nsf, .ref nss, .ref nrc, .int (nI u.1), .int (nI jd), .int mnumber, .int mwhose, .int msize, .int u.2.1])), (nrc, .inl (G.2.1, 30, .inl u.2.2))]) := by
  refine MI.start (by decide +kernel) (Nat.le_of_ble_eq_true rfl) ?_
  intro p e s m below meth c A ls hC hK hP hD hS hA hl
  have hl : lv_has ls 5 [(0, .ref h0), (1, .int 1), (2, .int 3), (3, .int xx)] := hl
  obtain ⟨hx, hb, hr, hml, hB, hown, hlocks, hnm⟩ := id hC
  refine lv_iload_n hx hb dX12_bodyFrom_0 rfl (lv_at hl 1 rfl) ?_
  refine lv_istore (lv' := [(4, .int 1), (0, .ref h0), (1, .int 1), (2, .int 3), (3, .int xx)]) hx hb dX12_bodyFrom_1 hl (by decide) rfl (fun ls hl => ?_)
  refine lv_iload hx hb dX12_bodyFrom_3 (lv_at hl 0 rfl) ?_
  refine lv_iload_n hx hb dX12_bodyFrom_5 rfl (lv_at hl 3 rfl) ?_
  refine pS hC hK hl (m_hasOwn13 l G) si_X12_360 rfl rfl (Nat.le_of_ble_eq_true rfl) ⟨Nat.le_of_ble_eq_true rfl, Nat.le_of_ble_eq_true rfl⟩ ⟨by first | exact Nat.le_of_ble_eq_true rfl | exact Nat.zero_le _, by first | exact Nat.le_of_ble_eq_true rfl | exact Nat.zero_le _⟩ dX12_bodyFrom_6 (fun r6185 hr6185 => ?_)
  obtain rfl := hr6185
  refine lv_if_ne (tgt := 22) hx hb dX12_bodyFrom_9 (by decide) (fun c9 => absurd (by decide) c9) (fun _ => ?_)
  refine lv_iload hx hb dX12_bodyFrom_12 (lv_at hl 0 rfl) ?_
  refine pS hC hK hl (m_above1 l G) si_X12_348 rfl rfl (Nat.le_of_ble_eq_true rfl) ⟨Nat.le_of_ble_eq_true rfl, Nat.le_of_ble_eq_true rfl⟩ ⟨by first | exact Nat.le_of_ble_eq_true rfl | exact Nat.zero_le _, by first | exact Nat.le_of_ble_eq_true rfl | exact Nat.zero_le _⟩ dX12_bodyFrom_14 (fun r6187 hr6187 => ?_)
  obtain rfl := hr6187
  refine lv_istore (lv' := [(4, .int 0), (0, .ref h0), (1, .int 1), (2, .int 3), (3, .int xx)]) hx hb dX12_bodyFrom_17 hl (by decide) rfl (fun ls hl => ?_)
  refine lv_goto (tgt := 3) hx hb dX12_bodyFrom_19 (by decide) ?_
  refine lv_iload hx hb dX12_bodyFrom_3 (lv_at hl 0 rfl) ?_
  refine lv_iload_n hx hb dX12_bodyFrom_5 rfl (lv_at hl 3 rfl) ?_
  refine pS hC hK hl (m_hasOwn03 l G) si_X12_360 rfl rfl (Nat.le_of_ble_eq_true rfl) ⟨Nat.le_of_ble_eq_true rfl, Nat.le_of_ble_eq_true rfl⟩ ⟨by first | exact Nat.le_of_ble_eq_true rfl | exact Nat.zero_le _, by first | exact Nat.le_of_ble_eq_true rfl | exact Nat.zero_le _⟩ dX12_bodyFrom_6 (fun r6189 hr6189 => ?_)
  obtain rfl := hr6189
  refine lv_if_ne (tgt := 22) hx hb dX12_bodyFrom_9 (by decide) (fun _ => ?_) (fun c9 => absurd c9 (by decide))
  refine lv_aload_n hx hb dX12_bodyFrom_22 rfl (lv_at hl 1 rfl) ?_
  refine lv_iload hx hb dX12_bodyFrom_23 (lv_at hl 0 rfl) ?_
  refine lv_iload_n hx hb dX12_bodyFrom_25 rfl (lv_at hl 3 rfl) ?_
  refine lv_iload_n hx hb dX12_bodyFrom_26 rfl (lv_at hl 4 rfl) ?_
  refine iV (wr := []) hC hK hl hP hD hS hA (m_body03 l G h0 xx nw nk mhasKept nt mtaped nr mrowMany mroundOf mroundFrom mouts nm mfromHour mtoHour ns mfrom mto msort misFault mdeep mcoded mlines nl nc nF np ntr nb mbestCost nso nsi nit nsh nsf nss nrc jr jd mnumber mwhose msize misParted fnrc (by omega) (by omega)) si_X12_363 [0, 1] [] rfl rfl (by decide) rfl (by decide) (by decide) rfl rfl rfl rfl rfl (Nat.le_of_ble_eq_true rfl) ⟨Nat.le_of_ble_eq_true rfl, Nat.le_of_ble_eq_true rfl⟩ ⟨Nat.le_of_ble_eq_true rfl, Nat.le_of_ble_eq_true rfl⟩ dX12_bodyFrom_27 (fun r6191 u6192 H locs hr6191 hP hD hS => ?_)
  obtain ⟨jr16193, ip16194, gtrc6195⟩ := u6192
  try dsimp only at hr6191
  have hP : va_P G.1 vwCl [(h0, .inr (12, [.ref nw, .ref nk, .int mhasKept, .ref nt, .int mtaped, .ref nr, .int mrowMany, .int mroundOf, .int mroundFrom, .int mouts, .ref nm, .int mfromHour, .int mtoHour, .ref ns, .int mfrom, .int mto, .int msort, .int misFault, .int mdeep, .int mcoded, .int mlines, .ref nl, .ref nc, .ref nF, .ref np, .ref ntr, .ref nb, .int mbestCost, .ref nso, .ref nsi, .ref nit, .ref nsh, .ref nsf, .ref nss, .ref nrc, .int (nI jr16193), .int (nI jd), .int mnumber, .int mwhose, .int msize, .int ip16194])), (nrc, .inl (G.2.1, 30, .inl gtrc6195))] H := hP
  have hD : va_D A [(h0, .inr (12, [.ref nw, .ref nk, .int mhasKept, .ref nt, .int mtaped, .ref nr, .int mrowMany, .int mroundOf, .int mroundFrom, .int mouts, .ref nm, .int mfromHour, .int mtoHour, .ref ns, .int mfrom, .int mto, .int msort, .int misFault, .int mdeep, .int mcoded, .int mlines, .ref nl, .ref nc, .ref nF, .ref np, .ref ntr, .ref nb, .int mbestCost, .ref nso, .ref nsi, .ref nit, .ref nsh, .ref nsf, .ref nss, .ref nrc, .int (nI jr16193), .int (nI jd), .int mnumber, .int mwhose, .int msize, .int ip16194])), (nrc, .inl (G.2.1, 30, .inl gtrc6195))] := hD
  obtain ⟨hr6191, w6196⟩ := hr6191
  exact RI (v := r6191) hC hP hD hS [0, 1] (jr16193, ip16194, gtrc6195) rfl rfl (by decide) (⟨trivial, by omega⟩) rfl dX12_bodyFrom_30
set_option maxHeartbeats 4000000 in
set_option maxRecDepth 100000 in
theorem m_body33 (l : Launch) (G : GG) (h0 : Nat) (xx : Int32) (nw : Nat) (nk : Nat) (mhasKept : Int32) (nt : Nat) (mtaped : Int32) (nr : Nat) (mrowMany : Int32) (mroundOf : Int32) (mroundFrom : Int32) (mouts : Int32) (nm : Nat) (mfromHour : Int32) (mtoHour : Int32) (ns : Nat) (mfrom : Int32) (mto : Int32) (msort : Int32) (misFault : Int32) (mdeep : Int32) (mcoded : Int32) (mlines : Int32) (nl : Nat) (nc : Nat) (nF : Nat) (np : Nat) (ntr : Nat) (nb : Nat) (mbestCost : Int32) (nso : Nat) (nsi : Nat) (nit : Nat) (nsh : Nat) (nsf : Nat) (nss : Nat) (nrc : Nat) (jr : Nat) (jd : Nat) (mnumber : Int32) (mwhose : Int32) (msize : Int32) (misParted : Int32) (fnrc : Nat → Int32) (hjr : jr ≤ 30) (hjd : jd < 7) : MI l G yX12_body cX12_body 6 (some .int) 43 0 0 [.ref h0, .int 3, .int 3, .int xx] [(h0, .inr (12, [.ref nw, .ref nk, .int mhasKept, .ref nt, .int mtaped, .ref nr, .int mrowMany, .int mroundOf, .int mroundFrom, .int mouts, .ref nm, .int mfromHour, .int mtoHour, .ref ns, .int mfrom, .int mto, .int msort, .int misFault, .int mdeep, .int mcoded, .int mlines, .ref nl, .ref nc, .ref nF, .ref np, .ref ntr, .ref nb, .int mbestCost, .ref nso, .ref nsi, .ref nit, .ref nsh, .ref nsf, .ref nss, .ref nrc, .int (nI jr), .int (nI jd), .int mnumber, .int mwhose, .int msize, .int misParted])), (nrc, .inl (G.2.1, 30, .inl fnrc))] (fun (r : Int32) (u : Nat × Int32 × (Nat → Int32)) => (True) ∧ (u.1 ≤ 30)) (fun u : Nat × Int32 × (Nat → Int32) => [(h0, .inr (12, [.ref nw, .ref nk, .int mhasKept, .ref nt, .int mtaped, .ref nr, .int mrowMany, .int mroundOf, .int mroundFrom, .int mouts, .ref nm, .int mfromHour, .int mtoHour, .ref ns, .int mfrom, .int mto, .int msort, .int misFault, .int mdeep, .int mcoded, .int mlines, .ref nl, .ref nc, .ref nF, .ref np, .ref ntr, .ref nb, .int mbestCost, .ref nso, .ref nsi, .ref nit, .ref nsh, .ref nsf, .ref nss, .ref nrc, .int (nI u.1), .int (nI jd), .int mnumber, .int mwhose, .int msize, .int u.2.1])), (nrc, .inl (G.2.1, 30, .inl u.2.2))]) := by
  refine MI.start (by decide +kernel) (Nat.le_of_ble_eq_true rfl) ?_
  intro p e s m below meth c A ls hC hK hP hD hS hA hl
  have hl : lv_has ls 6 [(0, .ref h0), (1, .int 3), (2, .int 3), (3, .int xx)] := hl
  obtain ⟨hx, hb, hr, hml, hB, hown, hlocks, hnm⟩ := id hC
  refine lv_iconst (v := 4) hx hb dX12_body_0 (by decide) ?_
  refine lv_iload_n hx hb dX12_body_1 rfl (lv_at hl 1 rfl) ?_
  refine lv_imul hx hb dX12_body_2 ?_
  refine eqi (x1 := 12) (by decide) ?_
  refine lv_iload_n hx hb dX12_body_3 rfl (lv_at hl 2 rfl) ?_
  refine lv_iadd hx hb dX12_body_4 ?_
  refine eqi (x1 := 15) (by decide) ?_
  refine lv_tableIn (tgt := 258) hx hb dX12_body_5 (by decide) (by decide) rfl (by decide) ?_
  refine lv_aload_n hx hb dX12_body_258 rfl (lv_at hl 0 rfl) ?_
  refine lv_bipush (v := 41) hx hb dX12_body_259 (by decide) ?_
  refine vV (wr := []) hC hK hl hP hD hS hA (m_began l G h0 41 nw nk mhasKept nt mtaped nr mrowMany mroundOf mroundFrom mouts nm mfromHour mtoHour ns mfrom mto msort misFault mdeep mcoded mlines nl nc nF np ntr nb mbestCost nso nsi nit nsh nsf nss nrc jr (nI jd) mnumber mwhose msize misParted fnrc (by omega)) si_X12_366 [0, 1] [] rfl rfl (by decide) rfl (by decide) (by decide) rfl rfl rfl rfl rfl (Nat.le_of_ble_eq_true rfl) ⟨Nat.le_of_ble_eq_true rfl, Nat.le_of_ble_eq_true rfl⟩ ⟨Nat.le_of_ble_eq_true rfl, Nat.le_of_ble_eq_true rfl⟩ dX12_body_261 (fun u6198 H locs hr6197 hP hD hS => ?_)
  obtain ⟨jr16199, gtrc6200⟩ := u6198
  try dsimp only at hr6197
  have hP : va_P G.1 vwCl [(h0, .inr (12, [.ref nw, .ref nk, .int mhasKept, .ref nt, .int mtaped, .ref nr, .int mrowMany, .int mroundOf, .int mroundFrom, .int mouts, .ref nm, .int mfromHour, .int mtoHour, .ref ns, .int mfrom, .int mto, .int msort, .int misFault, .int mdeep, .int mcoded, .int mlines, .ref nl, .ref nc, .ref nF, .ref np, .ref ntr, .ref nb, .int mbestCost, .ref nso, .ref nsi, .ref nit, .ref nsh, .ref nsf, .ref nss, .ref nrc, .int (nI jr16199), .int (nI jd), .int mnumber, .int mwhose, .int msize, .int misParted])), (nrc, .inl (G.2.1, 30, .inl gtrc6200))] H := hP
  have hD : va_D A [(h0, .inr (12, [.ref nw, .ref nk, .int mhasKept, .ref nt, .int mtaped, .ref nr, .int mrowMany, .int mroundOf, .int mroundFrom, .int mouts, .ref nm, .int mfromHour, .int mtoHour, .ref ns, .int mfrom, .int mto, .int msort, .int misFault, .int mdeep, .int mcoded, .int mlines, .ref nl, .ref nc, .ref nF, .ref np, .ref ntr, .ref nb, .int mbestCost, .ref nso, .ref nsi, .ref nit, .ref nsh, .ref nsf, .ref nss, .ref nrc, .int (nI jr16199), .int (nI jd), .int mnumber, .int mwhose, .int msize, .int misParted])), (nrc, .inl (G.2.1, 30, .inl gtrc6200))] := hD
  have w6201 := hr6197
  refine lv_aload_n hx hb dX12_body_264 rfl (lv_at hl 0 rfl) ?_
  refine lv_iconst (v := 1) hx hb dX12_body_265 (by decide) ?_
  refine lv_iconst (v := 3) hx hb dX12_body_266 (by decide) ?_
  refine lv_iload_n hx hb dX12_body_267 rfl (lv_at hl 3 rfl) ?_
  refine lv_iconst (v := 2) hx hb dX12_body_268 (by decide) ?_
  refine lv_iadd hx hb dX12_body_269 ?_
  refine iV (wr := []) hC hK hl hP hD hS hA (m_from13 l G h0 (xx + 2) nw nk mhasKept nt mtaped nr mrowMany mroundOf mroundFrom mouts nm mfromHour mtoHour ns mfrom mto msort misFault mdeep mcoded mlines nl nc nF np ntr nb mbestCost nso nsi nit nsh nsf nss nrc jr16199 jd mnumber mwhose msize misParted gtrc6200 (by omega) (by omega)) si_X12_357 [0, 1] [] rfl rfl (by decide) rfl (by decide) (by decide) rfl rfl rfl rfl rfl (Nat.le_of_ble_eq_true rfl) ⟨Nat.le_of_ble_eq_true rfl, Nat.le_of_ble_eq_true rfl⟩ ⟨Nat.le_of_ble_eq_true rfl, Nat.le_of_ble_eq_true rfl⟩ dX12_body_270 (fun r6202 u6203 H locs hr6202 hP hD hS => ?_)
  obtain ⟨jr16204, ip16205, gtrc6206⟩ := u6203
  try dsimp only at hr6202
  have hP : va_P G.1 vwCl [(h0, .inr (12, [.ref nw, .ref nk, .int mhasKept, .ref nt, .int mtaped, .ref nr, .int mrowMany, .int mroundOf, .int mroundFrom, .int mouts, .ref nm, .int mfromHour, .int mtoHour, .ref ns, .int mfrom, .int mto, .int msort, .int misFault, .int mdeep, .int mcoded, .int mlines, .ref nl, .ref nc, .ref nF, .ref np, .ref ntr, .ref nb, .int mbestCost, .ref nso, .ref nsi, .ref nit, .ref nsh, .ref nsf, .ref nss, .ref nrc, .int (nI jr16204), .int (nI jd), .int mnumber, .int mwhose, .int msize, .int ip16205])), (nrc, .inl (G.2.1, 30, .inl gtrc6206))] H := hP
  have hD : va_D A [(h0, .inr (12, [.ref nw, .ref nk, .int mhasKept, .ref nt, .int mtaped, .ref nr, .int mrowMany, .int mroundOf, .int mroundFrom, .int mouts, .ref nm, .int mfromHour, .int mtoHour, .ref ns, .int mfrom, .int mto, .int msort, .int misFault, .int mdeep, .int mcoded, .int mlines, .ref nl, .ref nc, .ref nF, .ref np, .ref ntr, .ref nb, .int mbestCost, .ref nso, .ref nsi, .ref nit, .ref nsh, .ref nsf, .ref nss, .ref nrc, .int (nI jr16204), .int (nI jd), .int mnumber, .int mwhose, .int msize, .int ip16205])), (nrc, .inl (G.2.1, 30, .inl gtrc6206))] := hD
  obtain ⟨hr6202, w6207⟩ := hr6202
  exact RI (v := r6202) hC hP hD hS [0, 1] (jr16204, ip16205, gtrc6206) rfl rfl (by decide) (⟨trivial, by omega⟩) rfl dX12_body_273
set_option maxHeartbeats 4000000 in
set_option maxRecDepth 100000 in
theorem m_from33 (l : Launch) (G : GG) (h0 : Nat) (xx : Int32) (nw : Nat) (nk : Nat) (mhasKept : Int32) (nt : Nat) (mtaped : Int32) (nr : Nat) (mrowMany : Int32) (mroundOf : Int32) (mroundFrom : Int32) (mouts : Int32) (nm : Nat) (mfromHour : Int32) (mtoHour : Int32) (ns : Nat) (mfrom : Int32) (mto : Int32) (msort : Int32) (misFault : Int32) (mdeep : Int32) (mcoded : Int32) (mlines : Int32) (nl : Nat) (nc : Nat) (nF : Nat) (np : Nat) (ntr : Nat) (nb : Nat) (mbestCost : Int32) (nso : Nat) (nsi : Nat) (nit : Nat) (nsh : Nat) (nsf : Nat) (nss : Nat) (nrc : Nat) (jr : Nat) (jd : Nat) (mnumber : Int32) (mwhose : Int32) (msize : Int32) (misParted : Int32) (fnrc : Nat → Int32) (hjr : jr ≤ 30) (hjd : jd < 7) : MI l G yX12_bodyFrom cX12_bodyFrom 5 (some .int) 44 0 0 [.ref h0, .int 3, .int 3, .int xx] [(h0, .inr (12, [.ref nw, .ref nk, .int mhasKept, .ref nt, .int mtaped, .ref nr, .int mrowMany, .int mroundOf, .int mroundFrom, .int mouts, .ref nm, .int mfromHour, .int mtoHour, .ref ns, .int mfrom, .int mto, .int msort, .int misFault, .int mdeep, .int mcoded, .int mlines, .ref nl, .ref nc, .ref nF, .ref np, .ref ntr, .ref nb, .int mbestCost, .ref nso, .ref nsi, .ref nit, .ref nsh, .ref nsf, .ref nss, .ref nrc, .int (nI jr), .int (nI jd), .int mnumber, .int mwhose, .int msize, .int misParted])), (nrc, .inl (G.2.1, 30, .inl fnrc))] (fun (r : Int32) (u : Nat × Int32 × (Nat → Int32)) => (True) ∧ (u.1 ≤ 30)) (fun u : Nat × Int32 × (Nat → Int32) => [(h0, .inr (12, [.ref nw, .ref nk, .int mhasKept, .ref nt, .int mtaped, .ref nr, .int mrowMany, .int mroundOf, .int mroundFrom, .int mouts, .ref nm, .int mfromHour, .int mtoHour, .ref ns, .int mfrom, .int mto, .int msort, .int misFault, .int mdeep, .int mcoded, .int mlines, .ref nl, .ref nc, .ref nF, .ref np, .ref ntr, .ref nb, .int mbestCost, .ref nso, .ref nsi, .ref nit, .ref nsh, .ref nsf, .ref nss, .ref nrc, .int (nI u.1), .int (nI jd), .int mnumber, .int mwhose, .int msize, .int u.2.1])), (nrc, .inl (G.2.1, 30, .inl u.2.2))]) := by
  refine MI.start (by decide +kernel) (Nat.le_of_ble_eq_true rfl) ?_
  intro p e s m below meth c A ls hC hK hP hD hS hA hl
  have hl : lv_has ls 5 [(0, .ref h0), (1, .int 3), (2, .int 3), (3, .int xx)] := hl
  obtain ⟨hx, hb, hr, hml, hB, hown, hlocks, hnm⟩ := id hC
  refine lv_iload_n hx hb dX12_bodyFrom_0 rfl (lv_at hl 1 rfl) ?_
  refine lv_istore (lv' := [(4, .int 3), (0, .ref h0), (1, .int 3), (2, .int 3), (3, .int xx)]) hx hb dX12_bodyFrom_1 hl (by decide) rfl (fun ls hl => ?_)
  refine lv_iload hx hb dX12_bodyFrom_3 (lv_at hl 0 rfl) ?_
  refine lv_iload_n hx hb dX12_bodyFrom_5 rfl (lv_at hl 3 rfl) ?_
  refine pS hC hK hl (m_hasOwn33 l G) si_X12_360 rfl rfl (Nat.le_of_ble_eq_true rfl) ⟨Nat.le_of_ble_eq_true rfl, Nat.le_of_ble_eq_true rfl⟩ ⟨by first | exact Nat.le_of_ble_eq_true rfl | exact Nat.zero_le _, by first | exact Nat.le_of_ble_eq_true rfl | exact Nat.zero_le _⟩ dX12_bodyFrom_6 (fun r6208 hr6208 => ?_)
  obtain rfl := hr6208
  refine lv_if_ne (tgt := 22) hx hb dX12_bodyFrom_9 (by decide) (fun _ => ?_) (fun c9 => absurd c9 (by decide))
  refine lv_aload_n hx hb dX12_bodyFrom_22 rfl (lv_at hl 1 rfl) ?_
  refine lv_iload hx hb dX12_bodyFrom_23 (lv_at hl 0 rfl) ?_
  refine lv_iload_n hx hb dX12_bodyFrom_25 rfl (lv_at hl 3 rfl) ?_
  refine lv_iload_n hx hb dX12_bodyFrom_26 rfl (lv_at hl 4 rfl) ?_
  refine iV (wr := []) hC hK hl hP hD hS hA (m_body33 l G h0 xx nw nk mhasKept nt mtaped nr mrowMany mroundOf mroundFrom mouts nm mfromHour mtoHour ns mfrom mto msort misFault mdeep mcoded mlines nl nc nF np ntr nb mbestCost nso nsi nit nsh nsf nss nrc jr jd mnumber mwhose msize misParted fnrc (by omega) (by omega)) si_X12_363 [0, 1] [] rfl rfl (by decide) rfl (by decide) (by decide) rfl rfl rfl rfl rfl (Nat.le_of_ble_eq_true rfl) ⟨Nat.le_of_ble_eq_true rfl, Nat.le_of_ble_eq_true rfl⟩ ⟨Nat.le_of_ble_eq_true rfl, Nat.le_of_ble_eq_true rfl⟩ dX12_bodyFrom_27 (fun r6210 u6211 H locs hr6210 hP hD hS => ?_)
  obtain ⟨jr16212, ip16213, gtrc6214⟩ := u6211
  try dsimp only at hr6210
  have hP : va_P G.1 vwCl [(h0, .inr (12, [.ref nw, .ref nk, .int mhasKept, .ref nt, .int mtaped, .ref nr, .int mrowMany, .int mroundOf, .int mroundFrom, .int mouts, .ref nm, .int mfromHour, .int mtoHour, .ref ns, .int mfrom, .int mto, .int msort, .int misFault, .int mdeep, .int mcoded, .int mlines, .ref nl, .ref nc, .ref nF, .ref np, .ref ntr, .ref nb, .int mbestCost, .ref nso, .ref nsi, .ref nit, .ref nsh, .ref nsf, .ref nss, .ref nrc, .int (nI jr16212), .int (nI jd), .int mnumber, .int mwhose, .int msize, .int ip16213])), (nrc, .inl (G.2.1, 30, .inl gtrc6214))] H := hP
  have hD : va_D A [(h0, .inr (12, [.ref nw, .ref nk, .int mhasKept, .ref nt, .int mtaped, .ref nr, .int mrowMany, .int mroundOf, .int mroundFrom, .int mouts, .ref nm, .int mfromHour, .int mtoHour, .ref ns, .int mfrom, .int mto, .int msort, .int misFault, .int mdeep, .int mcoded, .int mlines, .ref nl, .ref nc, .ref nF, .ref np, .ref ntr, .ref nb, .int mbestCost, .ref nso, .ref nsi, .ref nit, .ref nsh, .ref nsf, .ref nss, .ref nrc, .int (nI jr16212), .int (nI jd), .int mnumber, .int mwhose, .int msize, .int ip16213])), (nrc, .inl (G.2.1, 30, .inl gtrc6214))] := hD
  obtain ⟨hr6210, w6215⟩ := hr6210
  exact RI (v := r6210) hC hP hD hS [0, 1] (jr16212, ip16213, gtrc6214) rfl rfl (by decide) (⟨trivial, by omega⟩) rfl dX12_bodyFrom_30
set_option maxHeartbeats 4000000 in
set_option maxRecDepth 100000 in
theorem m_body63 (l : Launch) (G : GG) (h0 : Nat) (xx : Int32) (nw : Nat) (nk : Nat) (mhasKept : Int32) (nt : Nat) (mtaped : Int32) (nr : Nat) (mrowMany : Int32) (mroundOf : Int32) (mroundFrom : Int32) (mouts : Int32) (nm : Nat) (mfromHour : Int32) (mtoHour : Int32) (ns : Nat) (mfrom : Int32) (mto : Int32) (msort : Int32) (misFault : Int32) (mdeep : Int32) (mcoded : Int32) (mlines : Int32) (nl : Nat) (nc : Nat) (nF : Nat) (np : Nat) (ntr : Nat) (nb : Nat) (mbestCost : Int32) (nso : Nat) (nsi : Nat) (nit : Nat) (nsh : Nat) (nsf : Nat) (nss : Nat) (nrc : Nat) (jr : Nat) (jd : Nat) (mnumber : Int32) (mwhose : Int32) (msize : Int32) (misParted : Int32) (fnrc : Nat → Int32) (hjr : jr ≤ 30) (hjd : jd < 7) : MI l G yX12_body cX12_body 6 (some .int) 45 0 0 [.ref h0, .int 6, .int 3, .int xx] [(h0, .inr (12, [.ref nw, .ref nk, .int mhasKept, .ref nt, .int mtaped, .ref nr, .int mrowMany, .int mroundOf, .int mroundFrom, .int mouts, .ref nm, .int mfromHour, .int mtoHour, .ref ns, .int mfrom, .int mto, .int msort, .int misFault, .int mdeep, .int mcoded, .int mlines, .ref nl, .ref nc, .ref nF, .ref np, .ref ntr, .ref nb, .int mbestCost, .ref nso, .ref nsi, .ref nit, .ref nsh, .ref nsf, .ref nss, .ref nrc, .int (nI jr), .int (nI jd), .int mnumber, .int mwhose, .int msize, .int misParted])), (nrc, .inl (G.2.1, 30, .inl fnrc))] (fun (r : Int32) (u : Nat × Int32 × (Nat → Int32)) => (True) ∧ (u.1 ≤ 30)) (fun u : Nat × Int32 × (Nat → Int32) => [(h0, .inr (12, [.ref nw, .ref nk, .int mhasKept, .ref nt, .int mtaped, .ref nr, .int mrowMany, .int mroundOf, .int mroundFrom, .int mouts, .ref nm, .int mfromHour, .int mtoHour, .ref ns, .int mfrom, .int mto, .int msort, .int misFault, .int mdeep, .int mcoded, .int mlines, .ref nl, .ref nc, .ref nF, .ref np, .ref ntr, .ref nb, .int mbestCost, .ref nso, .ref nsi, .ref nit, .ref nsh, .ref nsf, .ref nss, .ref nrc, .int (nI u.1), .int (nI jd), .int mnumber, .int mwhose, .int msize, .int u.2.1])), (nrc, .inl (G.2.1, 30, .inl u.2.2))]) := by
  refine MI.start (by decide +kernel) (Nat.le_of_ble_eq_true rfl) ?_
  intro p e s m below meth c A ls hC hK hP hD hS hA hl
  have hl : lv_has ls 6 [(0, .ref h0), (1, .int 6), (2, .int 3), (3, .int xx)] := hl
  obtain ⟨hx, hb, hr, hml, hB, hown, hlocks, hnm⟩ := id hC
  refine lv_iconst (v := 4) hx hb dX12_body_0 (by decide) ?_
  refine lv_iload_n hx hb dX12_body_1 rfl (lv_at hl 1 rfl) ?_
  refine lv_imul hx hb dX12_body_2 ?_
  refine eqi (x1 := 24) (by decide) ?_
  refine lv_iload_n hx hb dX12_body_3 rfl (lv_at hl 2 rfl) ?_
  refine lv_iadd hx hb dX12_body_4 ?_
  refine eqi (x1 := 27) (by decide) ?_
  refine lv_tableOut (tgt := 353) hx hb dX12_body_5 (by decide) (by decide) ?_
  refine lv_aload_n hx hb dX12_body_353 rfl (lv_at hl 0 rfl) ?_
  refine lv_bipush (v := 70) hx hb dX12_body_354 (by decide) ?_
  refine vV (wr := []) hC hK hl hP hD hS hA (m_began l G h0 70 nw nk mhasKept nt mtaped nr mrowMany mroundOf mroundFrom mouts nm mfromHour mtoHour ns mfrom mto msort misFault mdeep mcoded mlines nl nc nF np ntr nb mbestCost nso nsi nit nsh nsf nss nrc jr (nI jd) mnumber mwhose msize misParted fnrc (by omega)) si_X12_366 [0, 1] [] rfl rfl (by decide) rfl (by decide) (by decide) rfl rfl rfl rfl rfl (Nat.le_of_ble_eq_true rfl) ⟨Nat.le_of_ble_eq_true rfl, Nat.le_of_ble_eq_true rfl⟩ ⟨Nat.le_of_ble_eq_true rfl, Nat.le_of_ble_eq_true rfl⟩ dX12_body_356 (fun u6217 H locs hr6216 hP hD hS => ?_)
  obtain ⟨jr16218, gtrc6219⟩ := u6217
  try dsimp only at hr6216
  have hP : va_P G.1 vwCl [(h0, .inr (12, [.ref nw, .ref nk, .int mhasKept, .ref nt, .int mtaped, .ref nr, .int mrowMany, .int mroundOf, .int mroundFrom, .int mouts, .ref nm, .int mfromHour, .int mtoHour, .ref ns, .int mfrom, .int mto, .int msort, .int misFault, .int mdeep, .int mcoded, .int mlines, .ref nl, .ref nc, .ref nF, .ref np, .ref ntr, .ref nb, .int mbestCost, .ref nso, .ref nsi, .ref nit, .ref nsh, .ref nsf, .ref nss, .ref nrc, .int (nI jr16218), .int (nI jd), .int mnumber, .int mwhose, .int msize, .int misParted])), (nrc, .inl (G.2.1, 30, .inl gtrc6219))] H := hP
  have hD : va_D A [(h0, .inr (12, [.ref nw, .ref nk, .int mhasKept, .ref nt, .int mtaped, .ref nr, .int mrowMany, .int mroundOf, .int mroundFrom, .int mouts, .ref nm, .int mfromHour, .int mtoHour, .ref ns, .int mfrom, .int mto, .int msort, .int misFault, .int mdeep, .int mcoded, .int mlines, .ref nl, .ref nc, .ref nF, .ref np, .ref ntr, .ref nb, .int mbestCost, .ref nso, .ref nsi, .ref nit, .ref nsh, .ref nsf, .ref nss, .ref nrc, .int (nI jr16218), .int (nI jd), .int mnumber, .int mwhose, .int msize, .int misParted])), (nrc, .inl (G.2.1, 30, .inl gtrc6219))] := hD
  have w6220 := hr6216
  refine lv_aload_n hx hb dX12_body_359 rfl (lv_at hl 0 rfl) ?_
  refine lv_iconst (v := 0) hx hb dX12_body_360 (by decide) ?_
  refine lv_iconst (v := 3) hx hb dX12_body_361 (by decide) ?_
  refine lv_iload_n hx hb dX12_body_362 rfl (lv_at hl 3 rfl) ?_
  refine iV (wr := []) hC hK hl hP hD hS hA (m_from03 l G h0 xx nw nk mhasKept nt mtaped nr mrowMany mroundOf mroundFrom mouts nm mfromHour mtoHour ns mfrom mto msort misFault mdeep mcoded mlines nl nc nF np ntr nb mbestCost nso nsi nit nsh nsf nss nrc jr16218 jd mnumber mwhose msize misParted gtrc6219 (by omega) (by omega)) si_X12_357 [0, 1] [] rfl rfl (by decide) rfl (by decide) (by decide) rfl rfl rfl rfl rfl (Nat.le_of_ble_eq_true rfl) ⟨Nat.le_of_ble_eq_true rfl, Nat.le_of_ble_eq_true rfl⟩ ⟨Nat.le_of_ble_eq_true rfl, Nat.le_of_ble_eq_true rfl⟩ dX12_body_363 (fun r6221 u6222 H locs hr6221 hP hD hS => ?_)
  obtain ⟨jr16223, ip16224, gtrc6225⟩ := u6222
  try dsimp only at hr6221
  have hP : va_P G.1 vwCl [(h0, .inr (12, [.ref nw, .ref nk, .int mhasKept, .ref nt, .int mtaped, .ref nr, .int mrowMany, .int mroundOf, .int mroundFrom, .int mouts, .ref nm, .int mfromHour, .int mtoHour, .ref ns, .int mfrom, .int mto, .int msort, .int misFault, .int mdeep, .int mcoded, .int mlines, .ref nl, .ref nc, .ref nF, .ref np, .ref ntr, .ref nb, .int mbestCost, .ref nso, .ref nsi, .ref nit, .ref nsh, .ref nsf, .ref nss, .ref nrc, .int (nI jr16223), .int (nI jd), .int mnumber, .int mwhose, .int msize, .int ip16224])), (nrc, .inl (G.2.1, 30, .inl gtrc6225))] H := hP
  have hD : va_D A [(h0, .inr (12, [.ref nw, .ref nk, .int mhasKept, .ref nt, .int mtaped, .ref nr, .int mrowMany, .int mroundOf, .int mroundFrom, .int mouts, .ref nm, .int mfromHour, .int mtoHour, .ref ns, .int mfrom, .int mto, .int msort, .int misFault, .int mdeep, .int mcoded, .int mlines, .ref nl, .ref nc, .ref nF, .ref np, .ref ntr, .ref nb, .int mbestCost, .ref nso, .ref nsi, .ref nit, .ref nsh, .ref nsf, .ref nss, .ref nrc, .int (nI jr16223), .int (nI jd), .int mnumber, .int mwhose, .int msize, .int ip16224])), (nrc, .inl (G.2.1, 30, .inl gtrc6225))] := hD
  obtain ⟨hr6221, w6226⟩ := hr6221
  refine lv_istore (lv' := [(5, .int r6221), (0, .ref h0), (1, .int 6), (2, .int 3), (3, .int xx)]) hx hb dX12_body_366 hl (by decide) rfl (fun ls hl => ?_)
  refine lv_aload_n hx hb dX12_body_368 rfl (lv_at hl 1 rfl) ?_
  refine gf_X12_380 hC rfl hK hP 0 rfl rfl dX12_body_369 ?_
  refine lv_if_eq (tgt := 379) hx hb dX12_body_372 (by decide) (fun c_372_6227 => ?_) (fun c_372_6227 => ?_)
  · refine lv_iload hx hb dX12_body_379 (lv_at hl 0 rfl) ?_
    refine lv_aload_n hx hb dX12_body_381 rfl (lv_at hl 1 rfl) ?_
    refine lv_iconst (v := 0) hx hb dX12_body_382 (by decide) ?_
    refine lv_aload_n hx hb dX12_body_383 rfl (lv_at hl 1 rfl) ?_
    refine gf_X12_378 hC rfl hK hP 0 rfl rfl dX12_body_384 ?_
    refine iV (wr := []) hC hK hl hP hD hS hA (m_dealt0 l G h0 mnumber nw nk mhasKept nt mtaped nr mrowMany mroundOf mroundFrom mouts nm mfromHour mtoHour ns mfrom mto msort misFault mdeep mcoded mlines nl nc nF np ntr nb mbestCost nso nsi nit nsh nsf nss nrc jr16223 jd mnumber mwhose msize ip16224 gtrc6225 (by omega) (by omega)) si_X12_372 [0, 1] [] rfl rfl (by decide) rfl (by decide) (by decide) rfl rfl rfl rfl rfl (Nat.le_of_ble_eq_true rfl) ⟨Nat.le_of_ble_eq_true rfl, Nat.le_of_ble_eq_true rfl⟩ ⟨Nat.le_of_ble_eq_true rfl, Nat.le_of_ble_eq_true rfl⟩ dX12_body_387 (fun r6228 u6229 H locs hr6228 hP hD hS => ?_)
    obtain ⟨jr16230, ip16231, gtrc6232⟩ := u6229
    try dsimp only at hr6228
    have hP : va_P G.1 vwCl [(h0, .inr (12, [.ref nw, .ref nk, .int mhasKept, .ref nt, .int mtaped, .ref nr, .int mrowMany, .int mroundOf, .int mroundFrom, .int mouts, .ref nm, .int mfromHour, .int mtoHour, .ref ns, .int mfrom, .int mto, .int msort, .int misFault, .int mdeep, .int mcoded, .int mlines, .ref nl, .ref nc, .ref nF, .ref np, .ref ntr, .ref nb, .int mbestCost, .ref nso, .ref nsi, .ref nit, .ref nsh, .ref nsf, .ref nss, .ref nrc, .int (nI jr16230), .int (nI jd), .int mnumber, .int mwhose, .int msize, .int ip16231])), (nrc, .inl (G.2.1, 30, .inl gtrc6232))] H := hP
    have hD : va_D A [(h0, .inr (12, [.ref nw, .ref nk, .int mhasKept, .ref nt, .int mtaped, .ref nr, .int mrowMany, .int mroundOf, .int mroundFrom, .int mouts, .ref nm, .int mfromHour, .int mtoHour, .ref ns, .int mfrom, .int mto, .int msort, .int misFault, .int mdeep, .int mcoded, .int mlines, .ref nl, .ref nc, .ref nF, .ref np, .ref ntr, .ref nb, .int mbestCost, .ref nso, .ref nsi, .ref nit, .ref nsh, .ref nsf, .ref nss, .ref nrc, .int (nI jr16230), .int (nI jd), .int mnumber, .int mwhose, .int msize, .int ip16231])), (nrc, .inl (G.2.1, 30, .inl gtrc6232))] := hD
    obtain ⟨hr6228, w6233⟩ := hr6228
    refine lv_isub hx hb dX12_body_390 ?_
    exact RI (v := r6221 - r6228) hC hP hD hS [0, 1] (jr16230, ip16231, gtrc6232) rfl rfl (by decide) (⟨trivial, by omega⟩) rfl dX12_body_391
  · refine lv_iconst (v := 0) hx hb dX12_body_375 (by decide) ?_
    refine lv_goto (tgt := 391) hx hb dX12_body_376 (by decide) ?_
    exact RI (v := 0) hC hP hD hS [0, 1] (jr16223, ip16224, gtrc6225) rfl rfl (by decide) (⟨trivial, by omega⟩) rfl dX12_body_391
set_option maxHeartbeats 4000000 in
set_option maxRecDepth 100000 in
theorem m_from63 (l : Launch) (G : GG) (h0 : Nat) (xx : Int32) (nw : Nat) (nk : Nat) (mhasKept : Int32) (nt : Nat) (mtaped : Int32) (nr : Nat) (mrowMany : Int32) (mroundOf : Int32) (mroundFrom : Int32) (mouts : Int32) (nm : Nat) (mfromHour : Int32) (mtoHour : Int32) (ns : Nat) (mfrom : Int32) (mto : Int32) (msort : Int32) (misFault : Int32) (mdeep : Int32) (mcoded : Int32) (mlines : Int32) (nl : Nat) (nc : Nat) (nF : Nat) (np : Nat) (ntr : Nat) (nb : Nat) (mbestCost : Int32) (nso : Nat) (nsi : Nat) (nit : Nat) (nsh : Nat) (nsf : Nat) (nss : Nat) (nrc : Nat) (jr : Nat) (jd : Nat) (mnumber : Int32) (mwhose : Int32) (msize : Int32) (misParted : Int32) (fnrc : Nat → Int32) (hjr : jr ≤ 30) (hjd : jd < 7) : MI l G yX12_bodyFrom cX12_bodyFrom 5 (some .int) 46 0 0 [.ref h0, .int 6, .int 3, .int xx] [(h0, .inr (12, [.ref nw, .ref nk, .int mhasKept, .ref nt, .int mtaped, .ref nr, .int mrowMany, .int mroundOf, .int mroundFrom, .int mouts, .ref nm, .int mfromHour, .int mtoHour, .ref ns, .int mfrom, .int mto, .int msort, .int misFault, .int mdeep, .int mcoded, .int mlines, .ref nl, .ref nc, .ref nF, .ref np, .ref ntr, .ref nb, .int mbestCost, .ref nso, .ref nsi, .ref nit, .ref nsh, .ref nsf, .ref nss, .ref nrc, .int (nI jr), .int (nI jd), .int mnumber, .int mwhose, .int msize, .int misParted])), (nrc, .inl (G.2.1, 30, .inl fnrc))] (fun (r : Int32) (u : Nat × Int32 × (Nat → Int32)) => (True) ∧ (u.1 ≤ 30)) (fun u : Nat × Int32 × (Nat → Int32) => [(h0, .inr (12, [.ref nw, .ref nk, .int mhasKept, .ref nt, .int mtaped, .ref nr, .int mrowMany, .int mroundOf, .int mroundFrom, .int mouts, .ref nm, .int mfromHour, .int mtoHour, .ref ns, .int mfrom, .int mto, .int msort, .int misFault, .int mdeep, .int mcoded, .int mlines, .ref nl, .ref nc, .ref nF, .ref np, .ref ntr, .ref nb, .int mbestCost, .ref nso, .ref nsi, .ref nit, .ref nsh, .ref nsf, .ref nss, .ref nrc, .int (nI u.1), .int (nI jd), .int mnumber, .int mwhose, .int msize, .int u.2.1])), (nrc, .inl (G.2.1, 30, .inl u.2.2))]) := by
  refine MI.start (by decide +kernel) (Nat.le_of_ble_eq_true rfl) ?_
  intro p e s m below meth c A ls hC hK hP hD hS hA hl
  have hl : lv_has ls 5 [(0, .ref h0), (1, .int 6), (2, .int 3), (3, .int xx)] := hl
  obtain ⟨hx, hb, hr, hml, hB, hown, hlocks, hnm⟩ := id hC
  refine lv_iload_n hx hb dX12_bodyFrom_0 rfl (lv_at hl 1 rfl) ?_
  refine lv_istore (lv' := [(4, .int 6), (0, .ref h0), (1, .int 6), (2, .int 3), (3, .int xx)]) hx hb dX12_bodyFrom_1 hl (by decide) rfl (fun ls hl => ?_)
  refine lv_iload hx hb dX12_bodyFrom_3 (lv_at hl 0 rfl) ?_
  refine lv_iload_n hx hb dX12_bodyFrom_5 rfl (lv_at hl 3 rfl) ?_
  refine pS hC hK hl (m_hasOwn63 l G) si_X12_360 rfl rfl (Nat.le_of_ble_eq_true rfl) ⟨Nat.le_of_ble_eq_true rfl, Nat.le_of_ble_eq_true rfl⟩ ⟨by first | exact Nat.le_of_ble_eq_true rfl | exact Nat.zero_le _, by first | exact Nat.le_of_ble_eq_true rfl | exact Nat.zero_le _⟩ dX12_bodyFrom_6 (fun r6234 hr6234 => ?_)
  obtain rfl := hr6234
  refine lv_if_ne (tgt := 22) hx hb dX12_bodyFrom_9 (by decide) (fun _ => ?_) (fun c9 => absurd c9 (by decide))
  refine lv_aload_n hx hb dX12_bodyFrom_22 rfl (lv_at hl 1 rfl) ?_
  refine lv_iload hx hb dX12_bodyFrom_23 (lv_at hl 0 rfl) ?_
  refine lv_iload_n hx hb dX12_bodyFrom_25 rfl (lv_at hl 3 rfl) ?_
  refine lv_iload_n hx hb dX12_bodyFrom_26 rfl (lv_at hl 4 rfl) ?_
  refine iV (wr := []) hC hK hl hP hD hS hA (m_body63 l G h0 xx nw nk mhasKept nt mtaped nr mrowMany mroundOf mroundFrom mouts nm mfromHour mtoHour ns mfrom mto msort misFault mdeep mcoded mlines nl nc nF np ntr nb mbestCost nso nsi nit nsh nsf nss nrc jr jd mnumber mwhose msize misParted fnrc (by omega) (by omega)) si_X12_363 [0, 1] [] rfl rfl (by decide) rfl (by decide) (by decide) rfl rfl rfl rfl rfl (Nat.le_of_ble_eq_true rfl) ⟨Nat.le_of_ble_eq_true rfl, Nat.le_of_ble_eq_true rfl⟩ ⟨Nat.le_of_ble_eq_true rfl, Nat.le_of_ble_eq_true rfl⟩ dX12_bodyFrom_27 (fun r6236 u6237 H locs hr6236 hP hD hS => ?_)
  obtain ⟨jr16238, ip16239, gtrc6240⟩ := u6237
  try dsimp only at hr6236
  have hP : va_P G.1 vwCl [(h0, .inr (12, [.ref nw, .ref nk, .int mhasKept, .ref nt, .int mtaped, .ref nr, .int mrowMany, .int mroundOf, .int mroundFrom, .int mouts, .ref nm, .int mfromHour, .int mtoHour, .ref ns, .int mfrom, .int mto, .int msort, .int misFault, .int mdeep, .int mcoded, .int mlines, .ref nl, .ref nc, .ref nF, .ref np, .ref ntr, .ref nb, .int mbestCost, .ref nso, .ref nsi, .ref nit, .ref nsh, .ref nsf, .ref nss, .ref nrc, .int (nI jr16238), .int (nI jd), .int mnumber, .int mwhose, .int msize, .int ip16239])), (nrc, .inl (G.2.1, 30, .inl gtrc6240))] H := hP
  have hD : va_D A [(h0, .inr (12, [.ref nw, .ref nk, .int mhasKept, .ref nt, .int mtaped, .ref nr, .int mrowMany, .int mroundOf, .int mroundFrom, .int mouts, .ref nm, .int mfromHour, .int mtoHour, .ref ns, .int mfrom, .int mto, .int msort, .int misFault, .int mdeep, .int mcoded, .int mlines, .ref nl, .ref nc, .ref nF, .ref np, .ref ntr, .ref nb, .int mbestCost, .ref nso, .ref nsi, .ref nit, .ref nsh, .ref nsf, .ref nss, .ref nrc, .int (nI jr16238), .int (nI jd), .int mnumber, .int mwhose, .int msize, .int ip16239])), (nrc, .inl (G.2.1, 30, .inl gtrc6240))] := hD
  obtain ⟨hr6236, w6241⟩ := hr6236
  exact RI (v := r6236) hC hP hD hS [0, 1] (jr16238, ip16239, gtrc6240) rfl rfl (by decide) (⟨trivial, by omega⟩) rfl dX12_bodyFrom_30
set_option maxHeartbeats 4000000 in
set_option maxRecDepth 100000 in
theorem m_from23 (l : Launch) (G : GG) (h0 : Nat) (xx : Int32) (nw : Nat) (nk : Nat) (mhasKept : Int32) (nt : Nat) (mtaped : Int32) (nr : Nat) (mrowMany : Int32) (mroundOf : Int32) (mroundFrom : Int32) (mouts : Int32) (nm : Nat) (mfromHour : Int32) (mtoHour : Int32) (ns : Nat) (mfrom : Int32) (mto : Int32) (msort : Int32) (misFault : Int32) (mdeep : Int32) (mcoded : Int32) (mlines : Int32) (nl : Nat) (nc : Nat) (nF : Nat) (np : Nat) (ntr : Nat) (nb : Nat) (mbestCost : Int32) (nso : Nat) (nsi : Nat) (nit : Nat) (nsh : Nat) (nsf : Nat) (nss : Nat) (nrc : Nat) (jr : Nat) (jd : Nat) (mnumber : Int32) (mwhose : Int32) (msize : Int32) (misParted : Int32) (fnrc : Nat → Int32) (hjr : jr ≤ 30) (hjd : jd < 7) : MI l G yX12_bodyFrom cX12_bodyFrom 5 (some .int) 48 0 0 [.ref h0, .int 2, .int 3, .int xx] [(h0, .inr (12, [.ref nw, .ref nk, .int mhasKept, .ref nt, .int mtaped, .ref nr, .int mrowMany, .int mroundOf, .int mroundFrom, .int mouts, .ref nm, .int mfromHour, .int mtoHour, .ref ns, .int mfrom, .int mto, .int msort, .int misFault, .int mdeep, .int mcoded, .int mlines, .ref nl, .ref nc, .ref nF, .ref np, .ref ntr, .ref nb, .int mbestCost, .ref nso, .ref nsi, .ref nit, .ref nsh, .ref nsf, .ref nss, .ref nrc, .int (nI jr), .int (nI jd), .int mnumber, .int mwhose, .int msize, .int misParted])), (nrc, .inl (G.2.1, 30, .inl fnrc))] (fun (r : Int32) (u : Nat × Int32 × (Nat → Int32)) => (True) ∧ (u.1 ≤ 30)) (fun u : Nat × Int32 × (Nat → Int32) => [(h0, .inr (12, [.ref nw, .ref nk, .int mhasKept, .ref nt, .int mtaped, .ref nr, .int mrowMany, .int mroundOf, .int mroundFrom, .int mouts, .ref nm, .int mfromHour, .int mtoHour, .ref ns, .int mfrom, .int mto, .int msort, .int misFault, .int mdeep, .int mcoded, .int mlines, .ref nl, .ref nc, .ref nF, .ref np, .ref ntr, .ref nb, .int mbestCost, .ref nso, .ref nsi, .ref nit, .ref nsh, .ref nsf, .ref nss, .ref nrc, .int (nI u.1), .int (nI jd), .int mnumber, .int mwhose, .int msize, .int u.2.1])), (nrc, .inl (G.2.1, 30, .inl u.2.2))]) := by
  refine MI.start (by decide +kernel) (Nat.le_of_ble_eq_true rfl) ?_
  intro p e s m below meth c A ls hC hK hP hD hS hA hl
  have hl : lv_has ls 5 [(0, .ref h0), (1, .int 2), (2, .int 3), (3, .int xx)] := hl
  obtain ⟨hx, hb, hr, hml, hB, hown, hlocks, hnm⟩ := id hC
  refine lv_iload_n hx hb dX12_bodyFrom_0 rfl (lv_at hl 1 rfl) ?_
  refine lv_istore (lv' := [(4, .int 2), (0, .ref h0), (1, .int 2), (2, .int 3), (3, .int xx)]) hx hb dX12_bodyFrom_1 hl (by decide) rfl (fun ls hl => ?_)
  refine lv_iload hx hb dX12_bodyFrom_3 (lv_at hl 0 rfl) ?_
  refine lv_iload_n hx hb dX12_bodyFrom_5 rfl (lv_at hl 3 rfl) ?_
  refine pS hC hK hl (m_hasOwn23 l G) si_X12_360 rfl rfl (Nat.le_of_ble_eq_true rfl) ⟨Nat.le_of_ble_eq_true rfl, Nat.le_of_ble_eq_true rfl⟩ ⟨by first | exact Nat.le_of_ble_eq_true rfl | exact Nat.zero_le _, by first | exact Nat.le_of_ble_eq_true rfl | exact Nat.zero_le _⟩ dX12_bodyFrom_6 (fun r6242 hr6242 => ?_)
  obtain rfl := hr6242
  refine lv_if_ne (tgt := 22) hx hb dX12_bodyFrom_9 (by decide) (fun c9 => absurd (by decide) c9) (fun _ => ?_)
  refine lv_iload hx hb dX12_bodyFrom_12 (lv_at hl 0 rfl) ?_
  refine pS hC hK hl (m_above2 l G) si_X12_348 rfl rfl (Nat.le_of_ble_eq_true rfl) ⟨Nat.le_of_ble_eq_true rfl, Nat.le_of_ble_eq_true rfl⟩ ⟨by first | exact Nat.le_of_ble_eq_true rfl | exact Nat.zero_le _, by first | exact Nat.le_of_ble_eq_true rfl | exact Nat.zero_le _⟩ dX12_bodyFrom_14 (fun r6244 hr6244 => ?_)
  obtain rfl := hr6244
  refine lv_istore (lv' := [(4, .int 0), (0, .ref h0), (1, .int 2), (2, .int 3), (3, .int xx)]) hx hb dX12_bodyFrom_17 hl (by decide) rfl (fun ls hl => ?_)
  refine lv_goto (tgt := 3) hx hb dX12_bodyFrom_19 (by decide) ?_
  refine lv_iload hx hb dX12_bodyFrom_3 (lv_at hl 0 rfl) ?_
  refine lv_iload_n hx hb dX12_bodyFrom_5 rfl (lv_at hl 3 rfl) ?_
  refine pS hC hK hl (m_hasOwn03 l G) si_X12_360 rfl rfl (Nat.le_of_ble_eq_true rfl) ⟨Nat.le_of_ble_eq_true rfl, Nat.le_of_ble_eq_true rfl⟩ ⟨by first | exact Nat.le_of_ble_eq_true rfl | exact Nat.zero_le _, by first | exact Nat.le_of_ble_eq_true rfl | exact Nat.zero_le _⟩ dX12_bodyFrom_6 (fun r6246 hr6246 => ?_)
  obtain rfl := hr6246
  refine lv_if_ne (tgt := 22) hx hb dX12_bodyFrom_9 (by decide) (fun _ => ?_) (fun c9 => absurd c9 (by decide))
  refine lv_aload_n hx hb dX12_bodyFrom_22 rfl (lv_at hl 1 rfl) ?_
  refine lv_iload hx hb dX12_bodyFrom_23 (lv_at hl 0 rfl) ?_
  refine lv_iload_n hx hb dX12_bodyFrom_25 rfl (lv_at hl 3 rfl) ?_
  refine lv_iload_n hx hb dX12_bodyFrom_26 rfl (lv_at hl 4 rfl) ?_
  refine iV (wr := []) hC hK hl hP hD hS hA (m_body03 l G h0 xx nw nk mhasKept nt mtaped nr mrowMany mroundOf mroundFrom mouts nm mfromHour mtoHour ns mfrom mto msort misFault mdeep mcoded mlines nl nc nF np ntr nb mbestCost nso nsi nit nsh nsf nss nrc jr jd mnumber mwhose msize misParted fnrc (by omega) (by omega)) si_X12_363 [0, 1] [] rfl rfl (by decide) rfl (by decide) (by decide) rfl rfl rfl rfl rfl (Nat.le_of_ble_eq_true rfl) ⟨Nat.le_of_ble_eq_true rfl, Nat.le_of_ble_eq_true rfl⟩ ⟨Nat.le_of_ble_eq_true rfl, Nat.le_of_ble_eq_true rfl⟩ dX12_bodyFrom_27 (fun r6248 u6249 H locs hr6248 hP hD hS => ?_)
  obtain ⟨jr16250, ip16251, gtrc6252⟩ := u6249
  try dsimp only at hr6248
  have hP : va_P G.1 vwCl [(h0, .inr (12, [.ref nw, .ref nk, .int mhasKept, .ref nt, .int mtaped, .ref nr, .int mrowMany, .int mroundOf, .int mroundFrom, .int mouts, .ref nm, .int mfromHour, .int mtoHour, .ref ns, .int mfrom, .int mto, .int msort, .int misFault, .int mdeep, .int mcoded, .int mlines, .ref nl, .ref nc, .ref nF, .ref np, .ref ntr, .ref nb, .int mbestCost, .ref nso, .ref nsi, .ref nit, .ref nsh, .ref nsf, .ref nss, .ref nrc, .int (nI jr16250), .int (nI jd), .int mnumber, .int mwhose, .int msize, .int ip16251])), (nrc, .inl (G.2.1, 30, .inl gtrc6252))] H := hP
  have hD : va_D A [(h0, .inr (12, [.ref nw, .ref nk, .int mhasKept, .ref nt, .int mtaped, .ref nr, .int mrowMany, .int mroundOf, .int mroundFrom, .int mouts, .ref nm, .int mfromHour, .int mtoHour, .ref ns, .int mfrom, .int mto, .int msort, .int misFault, .int mdeep, .int mcoded, .int mlines, .ref nl, .ref nc, .ref nF, .ref np, .ref ntr, .ref nb, .int mbestCost, .ref nso, .ref nsi, .ref nit, .ref nsh, .ref nsf, .ref nss, .ref nrc, .int (nI jr16250), .int (nI jd), .int mnumber, .int mwhose, .int msize, .int ip16251])), (nrc, .inl (G.2.1, 30, .inl gtrc6252))] := hD
  obtain ⟨hr6248, w6253⟩ := hr6248
  exact RI (v := r6248) hC hP hD hS [0, 1] (jr16250, ip16251, gtrc6252) rfl rfl (by decide) (⟨trivial, by omega⟩) rfl dX12_bodyFrom_30
set_option maxHeartbeats 4000000 in
set_option maxRecDepth 100000 in
theorem m_from43 (l : Launch) (G : GG) (h0 : Nat) (xx : Int32) (nw : Nat) (nk : Nat) (mhasKept : Int32) (nt : Nat) (mtaped : Int32) (nr : Nat) (mrowMany : Int32) (mroundOf : Int32) (mroundFrom : Int32) (mouts : Int32) (nm : Nat) (mfromHour : Int32) (mtoHour : Int32) (ns : Nat) (mfrom : Int32) (mto : Int32) (msort : Int32) (misFault : Int32) (mdeep : Int32) (mcoded : Int32) (mlines : Int32) (nl : Nat) (nc : Nat) (nF : Nat) (np : Nat) (ntr : Nat) (nb : Nat) (mbestCost : Int32) (nso : Nat) (nsi : Nat) (nit : Nat) (nsh : Nat) (nsf : Nat) (nss : Nat) (nrc : Nat) (jr : Nat) (jd : Nat) (mnumber : Int32) (mwhose : Int32) (msize : Int32) (misParted : Int32) (fnrc : Nat → Int32) (hjr : jr ≤ 30) (hjd : jd < 7) : MI l G yX12_bodyFrom cX12_bodyFrom 5 (some .int) 48 0 0 [.ref h0, .int 4, .int 3, .int xx] [(h0, .inr (12, [.ref nw, .ref nk, .int mhasKept, .ref nt, .int mtaped, .ref nr, .int mrowMany, .int mroundOf, .int mroundFrom, .int mouts, .ref nm, .int mfromHour, .int mtoHour, .ref ns, .int mfrom, .int mto, .int msort, .int misFault, .int mdeep, .int mcoded, .int mlines, .ref nl, .ref nc, .ref nF, .ref np, .ref ntr, .ref nb, .int mbestCost, .ref nso, .ref nsi, .ref nit, .ref nsh, .ref nsf, .ref nss, .ref nrc, .int (nI jr), .int (nI jd), .int mnumber, .int mwhose, .int msize, .int misParted])), (nrc, .inl (G.2.1, 30, .inl fnrc))] (fun (r : Int32) (u : Nat × Int32 × (Nat → Int32)) => (True) ∧ (u.1 ≤ 30)) (fun u : Nat × Int32 × (Nat → Int32) => [(h0, .inr (12, [.ref nw, .ref nk, .int mhasKept, .ref nt, .int mtaped, .ref nr, .int mrowMany, .int mroundOf, .int mroundFrom, .int mouts, .ref nm, .int mfromHour, .int mtoHour, .ref ns, .int mfrom, .int mto, .int msort, .int misFault, .int mdeep, .int mcoded, .int mlines, .ref nl, .ref nc, .ref nF, .ref np, .ref ntr, .ref nb, .int mbestCost, .ref nso, .ref nsi, .ref nit, .ref nsh, .ref nsf, .ref nss, .ref nrc, .int (nI u.1), .int (nI jd), .int mnumber, .int mwhose, .int msize, .int u.2.1])), (nrc, .inl (G.2.1, 30, .inl u.2.2))]) := by
  refine MI.start (by decide +kernel) (Nat.le_of_ble_eq_true rfl) ?_
  intro p e s m below meth c A ls hC hK hP hD hS hA hl
  have hl : lv_has ls 5 [(0, .ref h0), (1, .int 4), (2, .int 3), (3, .int xx)] := hl
  obtain ⟨hx, hb, hr, hml, hB, hown, hlocks, hnm⟩ := id hC
  refine lv_iload_n hx hb dX12_bodyFrom_0 rfl (lv_at hl 1 rfl) ?_
  refine lv_istore (lv' := [(4, .int 4), (0, .ref h0), (1, .int 4), (2, .int 3), (3, .int xx)]) hx hb dX12_bodyFrom_1 hl (by decide) rfl (fun ls hl => ?_)
  refine lv_iload hx hb dX12_bodyFrom_3 (lv_at hl 0 rfl) ?_
  refine lv_iload_n hx hb dX12_bodyFrom_5 rfl (lv_at hl 3 rfl) ?_
  refine pS hC hK hl (m_hasOwn43 l G) si_X12_360 rfl rfl (Nat.le_of_ble_eq_true rfl) ⟨Nat.le_of_ble_eq_true rfl, Nat.le_of_ble_eq_true rfl⟩ ⟨by first | exact Nat.le_of_ble_eq_true rfl | exact Nat.zero_le _, by first | exact Nat.le_of_ble_eq_true rfl | exact Nat.zero_le _⟩ dX12_bodyFrom_6 (fun r6254 hr6254 => ?_)
  obtain rfl := hr6254
  refine lv_if_ne (tgt := 22) hx hb dX12_bodyFrom_9 (by decide) (fun c9 => absurd (by decide) c9) (fun _ => ?_)
  refine lv_iload hx hb dX12_bodyFrom_12 (lv_at hl 0 rfl) ?_
  refine pS hC hK hl (m_above4 l G) si_X12_348 rfl rfl (Nat.le_of_ble_eq_true rfl) ⟨Nat.le_of_ble_eq_true rfl, Nat.le_of_ble_eq_true rfl⟩ ⟨by first | exact Nat.le_of_ble_eq_true rfl | exact Nat.zero_le _, by first | exact Nat.le_of_ble_eq_true rfl | exact Nat.zero_le _⟩ dX12_bodyFrom_14 (fun r6256 hr6256 => ?_)
  obtain rfl := hr6256
  refine lv_istore (lv' := [(4, .int 0), (0, .ref h0), (1, .int 4), (2, .int 3), (3, .int xx)]) hx hb dX12_bodyFrom_17 hl (by decide) rfl (fun ls hl => ?_)
  refine lv_goto (tgt := 3) hx hb dX12_bodyFrom_19 (by decide) ?_
  refine lv_iload hx hb dX12_bodyFrom_3 (lv_at hl 0 rfl) ?_
  refine lv_iload_n hx hb dX12_bodyFrom_5 rfl (lv_at hl 3 rfl) ?_
  refine pS hC hK hl (m_hasOwn03 l G) si_X12_360 rfl rfl (Nat.le_of_ble_eq_true rfl) ⟨Nat.le_of_ble_eq_true rfl, Nat.le_of_ble_eq_true rfl⟩ ⟨by first | exact Nat.le_of_ble_eq_true rfl | exact Nat.zero_le _, by first | exact Nat.le_of_ble_eq_true rfl | exact Nat.zero_le _⟩ dX12_bodyFrom_6 (fun r6258 hr6258 => ?_)
  obtain rfl := hr6258
  refine lv_if_ne (tgt := 22) hx hb dX12_bodyFrom_9 (by decide) (fun _ => ?_) (fun c9 => absurd c9 (by decide))
  refine lv_aload_n hx hb dX12_bodyFrom_22 rfl (lv_at hl 1 rfl) ?_
  refine lv_iload hx hb dX12_bodyFrom_23 (lv_at hl 0 rfl) ?_
  refine lv_iload_n hx hb dX12_bodyFrom_25 rfl (lv_at hl 3 rfl) ?_
  refine lv_iload_n hx hb dX12_bodyFrom_26 rfl (lv_at hl 4 rfl) ?_
  refine iV (wr := []) hC hK hl hP hD hS hA (m_body03 l G h0 xx nw nk mhasKept nt mtaped nr mrowMany mroundOf mroundFrom mouts nm mfromHour mtoHour ns mfrom mto msort misFault mdeep mcoded mlines nl nc nF np ntr nb mbestCost nso nsi nit nsh nsf nss nrc jr jd mnumber mwhose msize misParted fnrc (by omega) (by omega)) si_X12_363 [0, 1] [] rfl rfl (by decide) rfl (by decide) (by decide) rfl rfl rfl rfl rfl (Nat.le_of_ble_eq_true rfl) ⟨Nat.le_of_ble_eq_true rfl, Nat.le_of_ble_eq_true rfl⟩ ⟨Nat.le_of_ble_eq_true rfl, Nat.le_of_ble_eq_true rfl⟩ dX12_bodyFrom_27 (fun r6260 u6261 H locs hr6260 hP hD hS => ?_)
  obtain ⟨jr16262, ip16263, gtrc6264⟩ := u6261
  try dsimp only at hr6260
  have hP : va_P G.1 vwCl [(h0, .inr (12, [.ref nw, .ref nk, .int mhasKept, .ref nt, .int mtaped, .ref nr, .int mrowMany, .int mroundOf, .int mroundFrom, .int mouts, .ref nm, .int mfromHour, .int mtoHour, .ref ns, .int mfrom, .int mto, .int msort, .int misFault, .int mdeep, .int mcoded, .int mlines, .ref nl, .ref nc, .ref nF, .ref np, .ref ntr, .ref nb, .int mbestCost, .ref nso, .ref nsi, .ref nit, .ref nsh, .ref nsf, .ref nss, .ref nrc, .int (nI jr16262), .int (nI jd), .int mnumber, .int mwhose, .int msize, .int ip16263])), (nrc, .inl (G.2.1, 30, .inl gtrc6264))] H := hP
  have hD : va_D A [(h0, .inr (12, [.ref nw, .ref nk, .int mhasKept, .ref nt, .int mtaped, .ref nr, .int mrowMany, .int mroundOf, .int mroundFrom, .int mouts, .ref nm, .int mfromHour, .int mtoHour, .ref ns, .int mfrom, .int mto, .int msort, .int misFault, .int mdeep, .int mcoded, .int mlines, .ref nl, .ref nc, .ref nF, .ref np, .ref ntr, .ref nb, .int mbestCost, .ref nso, .ref nsi, .ref nit, .ref nsh, .ref nsf, .ref nss, .ref nrc, .int (nI jr16262), .int (nI jd), .int mnumber, .int mwhose, .int msize, .int ip16263])), (nrc, .inl (G.2.1, 30, .inl gtrc6264))] := hD
  obtain ⟨hr6260, w6265⟩ := hr6260
  exact RI (v := r6260) hC hP hD hS [0, 1] (jr16262, ip16263, gtrc6264) rfl rfl (by decide) (⟨trivial, by omega⟩) rfl dX12_bodyFrom_30
set_option maxHeartbeats 4000000 in
set_option maxRecDepth 100000 in
theorem m_from53 (l : Launch) (G : GG) (h0 : Nat) (xx : Int32) (nw : Nat) (nk : Nat) (mhasKept : Int32) (nt : Nat) (mtaped : Int32) (nr : Nat) (mrowMany : Int32) (mroundOf : Int32) (mroundFrom : Int32) (mouts : Int32) (nm : Nat) (mfromHour : Int32) (mtoHour : Int32) (ns : Nat) (mfrom : Int32) (mto : Int32) (msort : Int32) (misFault : Int32) (mdeep : Int32) (mcoded : Int32) (mlines : Int32) (nl : Nat) (nc : Nat) (nF : Nat) (np : Nat) (ntr : Nat) (nb : Nat) (mbestCost : Int32) (nso : Nat) (nsi : Nat) (nit : Nat) (nsh : Nat) (nsf : Nat) (nss : Nat) (nrc : Nat) (jr : Nat) (jd : Nat) (mnumber : Int32) (mwhose : Int32) (msize : Int32) (misParted : Int32) (fnrc : Nat → Int32) (hjr : jr ≤ 30) (hjd : jd < 7) : MI l G yX12_bodyFrom cX12_bodyFrom 5 (some .int) 48 0 0 [.ref h0, .int 5, .int 3, .int xx] [(h0, .inr (12, [.ref nw, .ref nk, .int mhasKept, .ref nt, .int mtaped, .ref nr, .int mrowMany, .int mroundOf, .int mroundFrom, .int mouts, .ref nm, .int mfromHour, .int mtoHour, .ref ns, .int mfrom, .int mto, .int msort, .int misFault, .int mdeep, .int mcoded, .int mlines, .ref nl, .ref nc, .ref nF, .ref np, .ref ntr, .ref nb, .int mbestCost, .ref nso, .ref nsi, .ref nit, .ref nsh, .ref nsf, .ref nss, .ref nrc, .int (nI jr), .int (nI jd), .int mnumber, .int mwhose, .int msize, .int misParted])), (nrc, .inl (G.2.1, 30, .inl fnrc))] (fun (r : Int32) (u : Nat × Int32 × (Nat → Int32)) => (True) ∧ (u.1 ≤ 30)) (fun u : Nat × Int32 × (Nat → Int32) => [(h0, .inr (12, [.ref nw, .ref nk, .int mhasKept, .ref nt, .int mtaped, .ref nr, .int mrowMany, .int mroundOf, .int mroundFrom, .int mouts, .ref nm, .int mfromHour, .int mtoHour, .ref ns, .int mfrom, .int mto, .int msort, .int misFault, .int mdeep, .int mcoded, .int mlines, .ref nl, .ref nc, .ref nF, .ref np, .ref ntr, .ref nb, .int mbestCost, .ref nso, .ref nsi, .ref nit, .ref nsh, .ref nsf, .ref nss, .ref nrc, .int (nI u.1), .int (nI jd), .int mnumber, .int mwhose, .int msize, .int u.2.1])), (nrc, .inl (G.2.1, 30, .inl u.2.2))]) := by
  refine MI.start (by decide +kernel) (Nat.le_of_ble_eq_true rfl) ?_
  intro p e s m below meth c A ls hC hK hP hD hS hA hl
  have hl : lv_has ls 5 [(0, .ref h0), (1, .int 5), (2, .int 3), (3, .int xx)] := hl
  obtain ⟨hx, hb, hr, hml, hB, hown, hlocks, hnm⟩ := id hC
  refine lv_iload_n hx hb dX12_bodyFrom_0 rfl (lv_at hl 1 rfl) ?_
  refine lv_istore (lv' := [(4, .int 5), (0, .ref h0), (1, .int 5), (2, .int 3), (3, .int xx)]) hx hb dX12_bodyFrom_1 hl (by decide) rfl (fun ls hl => ?_)
  refine lv_iload hx hb dX12_bodyFrom_3 (lv_at hl 0 rfl) ?_
  refine lv_iload_n hx hb dX12_bodyFrom_5 rfl (lv_at hl 3 rfl) ?_
  refine pS hC hK hl (m_hasOwn53 l G) si_X12_360 rfl rfl (Nat.le_of_ble_eq_true rfl) ⟨Nat.le_of_ble_eq_true rfl, Nat.le_of_ble_eq_true rfl⟩ ⟨by first | exact Nat.le_of_ble_eq_true rfl | exact Nat.zero_le _, by first | exact Nat.le_of_ble_eq_true rfl | exact Nat.zero_le _⟩ dX12_bodyFrom_6 (fun r6266 hr6266 => ?_)
  obtain rfl := hr6266
  refine lv_if_ne (tgt := 22) hx hb dX12_bodyFrom_9 (by decide) (fun c9 => absurd (by decide) c9) (fun _ => ?_)
  refine lv_iload hx hb dX12_bodyFrom_12 (lv_at hl 0 rfl) ?_
  refine pS hC hK hl (m_above5 l G) si_X12_348 rfl rfl (Nat.le_of_ble_eq_true rfl) ⟨Nat.le_of_ble_eq_true rfl, Nat.le_of_ble_eq_true rfl⟩ ⟨by first | exact Nat.le_of_ble_eq_true rfl | exact Nat.zero_le _, by first | exact Nat.le_of_ble_eq_true rfl | exact Nat.zero_le _⟩ dX12_bodyFrom_14 (fun r6268 hr6268 => ?_)
  obtain rfl := hr6268
  refine lv_istore (lv' := [(4, .int 4), (0, .ref h0), (1, .int 5), (2, .int 3), (3, .int xx)]) hx hb dX12_bodyFrom_17 hl (by decide) rfl (fun ls hl => ?_)
  refine lv_goto (tgt := 3) hx hb dX12_bodyFrom_19 (by decide) ?_
  refine lv_iload hx hb dX12_bodyFrom_3 (lv_at hl 0 rfl) ?_
  refine lv_iload_n hx hb dX12_bodyFrom_5 rfl (lv_at hl 3 rfl) ?_
  refine pS hC hK hl (m_hasOwn43 l G) si_X12_360 rfl rfl (Nat.le_of_ble_eq_true rfl) ⟨Nat.le_of_ble_eq_true rfl, Nat.le_of_ble_eq_true rfl⟩ ⟨by first | exact Nat.le_of_ble_eq_true rfl | exact Nat.zero_le _, by first | exact Nat.le_of_ble_eq_true rfl | exact Nat.zero_le _⟩ dX12_bodyFrom_6 (fun r6270 hr6270 => ?_)
  obtain rfl := hr6270
  refine lv_if_ne (tgt := 22) hx hb dX12_bodyFrom_9 (by decide) (fun c9 => absurd (by decide) c9) (fun _ => ?_)
  refine lv_iload hx hb dX12_bodyFrom_12 (lv_at hl 0 rfl) ?_
  refine pS hC hK hl (m_above4 l G) si_X12_348 rfl rfl (Nat.le_of_ble_eq_true rfl) ⟨Nat.le_of_ble_eq_true rfl, Nat.le_of_ble_eq_true rfl⟩ ⟨by first | exact Nat.le_of_ble_eq_true rfl | exact Nat.zero_le _, by first | exact Nat.le_of_ble_eq_true rfl | exact Nat.zero_le _⟩ dX12_bodyFrom_14 (fun r6272 hr6272 => ?_)
  obtain rfl := hr6272
  refine lv_istore (lv' := [(4, .int 0), (0, .ref h0), (1, .int 5), (2, .int 3), (3, .int xx)]) hx hb dX12_bodyFrom_17 hl (by decide) rfl (fun ls hl => ?_)
  refine lv_goto (tgt := 3) hx hb dX12_bodyFrom_19 (by decide) ?_
  refine lv_iload hx hb dX12_bodyFrom_3 (lv_at hl 0 rfl) ?_
  refine lv_iload_n hx hb dX12_bodyFrom_5 rfl (lv_at hl 3 rfl) ?_
  refine pS hC hK hl (m_hasOwn03 l G) si_X12_360 rfl rfl (Nat.le_of_ble_eq_true rfl) ⟨Nat.le_of_ble_eq_true rfl, Nat.le_of_ble_eq_true rfl⟩ ⟨by first | exact Nat.le_of_ble_eq_true rfl | exact Nat.zero_le _, by first | exact Nat.le_of_ble_eq_true rfl | exact Nat.zero_le _⟩ dX12_bodyFrom_6 (fun r6274 hr6274 => ?_)
  obtain rfl := hr6274
  refine lv_if_ne (tgt := 22) hx hb dX12_bodyFrom_9 (by decide) (fun _ => ?_) (fun c9 => absurd c9 (by decide))
  refine lv_aload_n hx hb dX12_bodyFrom_22 rfl (lv_at hl 1 rfl) ?_
  refine lv_iload hx hb dX12_bodyFrom_23 (lv_at hl 0 rfl) ?_
  refine lv_iload_n hx hb dX12_bodyFrom_25 rfl (lv_at hl 3 rfl) ?_
  refine lv_iload_n hx hb dX12_bodyFrom_26 rfl (lv_at hl 4 rfl) ?_
  refine iV (wr := []) hC hK hl hP hD hS hA (m_body03 l G h0 xx nw nk mhasKept nt mtaped nr mrowMany mroundOf mroundFrom mouts nm mfromHour mtoHour ns mfrom mto msort misFault mdeep mcoded mlines nl nc nF np ntr nb mbestCost nso nsi nit nsh nsf nss nrc jr jd mnumber mwhose msize misParted fnrc (by omega) (by omega)) si_X12_363 [0, 1] [] rfl rfl (by decide) rfl (by decide) (by decide) rfl rfl rfl rfl rfl (Nat.le_of_ble_eq_true rfl) ⟨Nat.le_of_ble_eq_true rfl, Nat.le_of_ble_eq_true rfl⟩ ⟨Nat.le_of_ble_eq_true rfl, Nat.le_of_ble_eq_true rfl⟩ dX12_bodyFrom_27 (fun r6276 u6277 H locs hr6276 hP hD hS => ?_)
  obtain ⟨jr16278, ip16279, gtrc6280⟩ := u6277
  try dsimp only at hr6276
  have hP : va_P G.1 vwCl [(h0, .inr (12, [.ref nw, .ref nk, .int mhasKept, .ref nt, .int mtaped, .ref nr, .int mrowMany, .int mroundOf, .int mroundFrom, .int mouts, .ref nm, .int mfromHour, .int mtoHour, .ref ns, .int mfrom, .int mto, .int msort, .int misFault, .int mdeep, .int mcoded, .int mlines, .ref nl, .ref nc, .ref nF, .ref np, .ref ntr, .ref nb, .int mbestCost, .ref nso, .ref nsi, .ref nit, .ref nsh, .ref nsf, .ref nss, .ref nrc, .int (nI jr16278), .int (nI jd), .int mnumber, .int mwhose, .int msize, .int ip16279])), (nrc, .inl (G.2.1, 30, .inl gtrc6280))] H := hP
  have hD : va_D A [(h0, .inr (12, [.ref nw, .ref nk, .int mhasKept, .ref nt, .int mtaped, .ref nr, .int mrowMany, .int mroundOf, .int mroundFrom, .int mouts, .ref nm, .int mfromHour, .int mtoHour, .ref ns, .int mfrom, .int mto, .int msort, .int misFault, .int mdeep, .int mcoded, .int mlines, .ref nl, .ref nc, .ref nF, .ref np, .ref ntr, .ref nb, .int mbestCost, .ref nso, .ref nsi, .ref nit, .ref nsh, .ref nsf, .ref nss, .ref nrc, .int (nI jr16278), .int (nI jd), .int mnumber, .int mwhose, .int msize, .int ip16279])), (nrc, .inl (G.2.1, 30, .inl gtrc6280))] := hD
  obtain ⟨hr6276, w6281⟩ := hr6276
  exact RI (v := r6276) hC hP hD hS [0, 1] (jr16278, ip16279, gtrc6280) rfl rfl (by decide) (⟨trivial, by omega⟩) rfl dX12_bodyFrom_30
set_option maxHeartbeats 4000000 in
set_option maxRecDepth 100000 in
theorem m_dealt3 (l : Launch) (G : GG) (h0 : Nat) (xx : Int32) (nw : Nat) (nk : Nat) (mhasKept : Int32) (nt : Nat) (mtaped : Int32) (nr : Nat) (mrowMany : Int32) (mroundOf : Int32) (mroundFrom : Int32) (mouts : Int32) (nm : Nat) (mfromHour : Int32) (mtoHour : Int32) (ns : Nat) (mfrom : Int32) (mto : Int32) (msort : Int32) (misFault : Int32) (mdeep : Int32) (mcoded : Int32) (mlines : Int32) (nl : Nat) (nc : Nat) (nF : Nat) (np : Nat) (ntr : Nat) (nb : Nat) (mbestCost : Int32) (nso : Nat) (nsi : Nat) (nit : Nat) (nsh : Nat) (nsf : Nat) (nss : Nat) (nrc : Nat) (jr : Nat) (jd : Nat) (mnumber : Int32) (mwhose : Int32) (msize : Int32) (misParted : Int32) (fnrc : Nat → Int32) (hjr : jr ≤ 30) (hjd : jd < 7) : MI l G yX12_dealt cX12_dealt 3 (some .int) 50 0 0 [.ref h0, .int 3, .int xx] [(h0, .inr (12, [.ref nw, .ref nk, .int mhasKept, .ref nt, .int mtaped, .ref nr, .int mrowMany, .int mroundOf, .int mroundFrom, .int mouts, .ref nm, .int mfromHour, .int mtoHour, .ref ns, .int mfrom, .int mto, .int msort, .int misFault, .int mdeep, .int mcoded, .int mlines, .ref nl, .ref nc, .ref nF, .ref np, .ref ntr, .ref nb, .int mbestCost, .ref nso, .ref nsi, .ref nit, .ref nsh, .ref nsf, .ref nss, .ref nrc, .int (nI jr), .int (nI jd), .int mnumber, .int mwhose, .int msize, .int misParted])), (nrc, .inl (G.2.1, 30, .inl fnrc))] (fun (r : Int32) (u : Nat × Int32 × (Nat → Int32)) => (True) ∧ (u.1 ≤ 30)) (fun u : Nat × Int32 × (Nat → Int32) => [(h0, .inr (12, [.ref nw, .ref nk, .int mhasKept, .ref nt, .int mtaped, .ref nr, .int mrowMany, .int mroundOf, .int mroundFrom, .int mouts, .ref nm, .int mfromHour, .int mtoHour, .ref ns, .int mfrom, .int mto, .int msort, .int misFault, .int mdeep, .int mcoded, .int mlines, .ref nl, .ref nc, .ref nF, .ref np, .ref ntr, .ref nb, .int mbestCost, .ref nso, .ref nsi, .ref nit, .ref nsh, .ref nsf, .ref nss, .ref nrc, .int (nI u.1), .int (nI jd), .int mnumber, .int mwhose, .int msize, .int u.2.1])), (nrc, .inl (G.2.1, 30, .inl u.2.2))]) := by
  refine MI.start (by decide +kernel) (Nat.le_of_ble_eq_true rfl) ?_
  intro p e s m below meth c A ls hC hK hP hD hS hA hl
  have hl : lv_has ls 3 [(0, .ref h0), (1, .int 3), (2, .int xx)] := hl
  obtain ⟨hx, hb, hr, hml, hB, hown, hlocks, hnm⟩ := id hC
  refine lv_aload_n hx hb dX12_dealt_0 rfl (lv_at hl 0 rfl) ?_
  refine lv_aload_n hx hb dX12_dealt_1 rfl (lv_at hl 0 rfl) ?_
  refine gf_X12_354 hC rfl hK hP 0 rfl rfl dX12_dealt_2 ?_
  refine lv_iload_n hx hb dX12_dealt_5 rfl (lv_at hl 1 rfl) ?_
  refine lv_iload_n hx hb dX12_dealt_6 rfl (lv_at hl 2 rfl) ?_
  rcases (show jd = 0 ∨ jd = 1 ∨ jd = 2 ∨ jd = 3 ∨ jd = 4 ∨ jd = 5 ∨ jd = 6 by omega) with rfl | rfl | rfl | rfl | rfl | rfl | rfl
  · refine iV (wr := []) hC hK hl hP hD hS hA (m_from03 l G h0 xx nw nk mhasKept nt mtaped nr mrowMany mroundOf mroundFrom mouts nm mfromHour mtoHour ns mfrom mto msort misFault mdeep mcoded mlines nl nc nF np ntr nb mbestCost nso nsi nit nsh nsf nss nrc jr 0 mnumber mwhose msize misParted fnrc (by omega) (by omega)) si_X12_357 [0, 1] [] rfl rfl (by decide) rfl (by decide) (by decide) rfl rfl rfl rfl rfl (Nat.le_of_ble_eq_true rfl) ⟨Nat.le_of_ble_eq_true rfl, Nat.le_of_ble_eq_true rfl⟩ ⟨Nat.le_of_ble_eq_true rfl, Nat.le_of_ble_eq_true rfl⟩ dX12_dealt_7 (fun r6282 u6283 H locs hr6282 hP hD hS => ?_)
    obtain ⟨jr16284, ip16285, gtrc6286⟩ := u6283
    try dsimp only at hr6282
    have hP : va_P G.1 vwCl [(h0, .inr (12, [.ref nw, .ref nk, .int mhasKept, .ref nt, .int mtaped, .ref nr, .int mrowMany, .int mroundOf, .int mroundFrom, .int mouts, .ref nm, .int mfromHour, .int mtoHour, .ref ns, .int mfrom, .int mto, .int msort, .int misFault, .int mdeep, .int mcoded, .int mlines, .ref nl, .ref nc, .ref nF, .ref np, .ref ntr, .ref nb, .int mbestCost, .ref nso, .ref nsi, .ref nit, .ref nsh, .ref nsf, .ref nss, .ref nrc, .int (nI jr16284), .int 0, .int mnumber, .int mwhose, .int msize, .int ip16285])), (nrc, .inl (G.2.1, 30, .inl gtrc6286))] H := hP
    have hD : va_D A [(h0, .inr (12, [.ref nw, .ref nk, .int mhasKept, .ref nt, .int mtaped, .ref nr, .int mrowMany, .int mroundOf, .int mroundFrom, .int mouts, .ref nm, .int mfromHour, .int mtoHour, .ref ns, .int mfrom, .int mto, .int msort, .int misFault, .int mdeep, .int mcoded, .int mlines, .ref nl, .ref nc, .ref nF, .ref np, .ref ntr, .ref nb, .int mbestCost, .ref nso, .ref nsi, .ref nit, .ref nsh, .ref nsf, .ref nss, .ref nrc, .int (nI jr16284), .int 0, .int mnumber, .int mwhose, .int msize, .int ip16285])), (nrc, .inl (G.2.1, 30, .inl gtrc6286))] := hD
    obtain ⟨hr6282, w6287⟩ := hr6282
    exact RI (v := r6282) hC hP hD hS [0, 1] (jr16284, ip16285, gtrc6286) rfl rfl (by decide) (⟨trivial, by omega⟩) rfl dX12_dealt_10
  · refine iV (wr := []) hC hK hl hP hD hS hA (m_from13 l G h0 xx nw nk mhasKept nt mtaped nr mrowMany mroundOf mroundFrom mouts nm mfromHour mtoHour ns mfrom mto msort misFault mdeep mcoded mlines nl nc nF np ntr nb mbestCost nso nsi nit nsh nsf nss nrc jr 1 mnumber mwhose msize misParted fnrc (by omega) (by omega)) si_X12_357 [0, 1] [] rfl rfl (by decide) rfl (by decide) (by decide) rfl rfl rfl rfl rfl (Nat.le_of_ble_eq_true rfl) ⟨Nat.le_of_ble_eq_true rfl, Nat.le_of_ble_eq_true rfl⟩ ⟨Nat.le_of_ble_eq_true rfl, Nat.le_of_ble_eq_true rfl⟩ dX12_dealt_7 (fun r6288 u6289 H locs hr6288 hP hD hS => ?_)
    obtain ⟨jr16290, ip16291, gtrc6292⟩ := u6289
    try dsimp only at hr6288
    have hP : va_P G.1 vwCl [(h0, .inr (12, [.ref nw, .ref nk, .int mhasKept, .ref nt, .int mtaped, .ref nr, .int mrowMany, .int mroundOf, .int mroundFrom, .int mouts, .ref nm, .int mfromHour, .int mtoHour, .ref ns, .int mfrom, .int mto, .int msort, .int misFault, .int mdeep, .int mcoded, .int mlines, .ref nl, .ref nc, .ref nF, .ref np, .ref ntr, .ref nb, .int mbestCost, .ref nso, .ref nsi, .ref nit, .ref nsh, .ref nsf, .ref nss, .ref nrc, .int (nI jr16290), .int 1, .int mnumber, .int mwhose, .int msize, .int ip16291])), (nrc, .inl (G.2.1, 30, .inl gtrc6292))] H := hP
    have hD : va_D A [(h0, .inr (12, [.ref nw, .ref nk, .int mhasKept, .ref nt, .int mtaped, .ref nr, .int mrowMany, .int mroundOf, .int mroundFrom, .int mouts, .ref nm, .int mfromHour, .int mtoHour, .ref ns, .int mfrom, .int mto, .int msort, .int misFault, .int mdeep, .int mcoded, .int mlines, .ref nl, .ref nc, .ref nF, .ref np, .ref ntr, .ref nb, .int mbestCost, .ref nso, .ref nsi, .ref nit, .ref nsh, .ref nsf, .ref nss, .ref nrc, .int (nI jr16290), .int 1, .int mnumber, .int mwhose, .int msize, .int ip16291])), (nrc, .inl (G.2.1, 30, .inl gtrc6292))] := hD
    obtain ⟨hr6288, w6293⟩ := hr6288
    exact RI (v := r6288) hC hP hD hS [0, 1] (jr16290, ip16291, gtrc6292) rfl rfl (by decide) (⟨trivial, by omega⟩) rfl dX12_dealt_10
  · refine iV (wr := []) hC hK hl hP hD hS hA (m_from23 l G h0 xx nw nk mhasKept nt mtaped nr mrowMany mroundOf mroundFrom mouts nm mfromHour mtoHour ns mfrom mto msort misFault mdeep mcoded mlines nl nc nF np ntr nb mbestCost nso nsi nit nsh nsf nss nrc jr 2 mnumber mwhose msize misParted fnrc (by omega) (by omega)) si_X12_357 [0, 1] [] rfl rfl (by decide) rfl (by decide) (by decide) rfl rfl rfl rfl rfl (Nat.le_of_ble_eq_true rfl) ⟨Nat.le_of_ble_eq_true rfl, Nat.le_of_ble_eq_true rfl⟩ ⟨Nat.le_of_ble_eq_true rfl, Nat.le_of_ble_eq_true rfl⟩ dX12_dealt_7 (fun r6294 u6295 H locs hr6294 hP hD hS => ?_)
    obtain ⟨jr16296, ip16297, gtrc6298⟩ := u6295
    try dsimp only at hr6294
    have hP : va_P G.1 vwCl [(h0, .inr (12, [.ref nw, .ref nk, .int mhasKept, .ref nt, .int mtaped, .ref nr, .int mrowMany, .int mroundOf, .int mroundFrom, .int mouts, .ref nm, .int mfromHour, .int mtoHour, .ref ns, .int mfrom, .int mto, .int msort, .int misFault, .int mdeep, .int mcoded, .int mlines, .ref nl, .ref nc, .ref nF, .ref np, .ref ntr, .ref nb, .int mbestCost, .ref nso, .ref nsi, .ref nit, .ref nsh, .ref nsf, .ref nss, .ref nrc, .int (nI jr16296), .int 2, .int mnumber, .int mwhose, .int msize, .int ip16297])), (nrc, .inl (G.2.1, 30, .inl gtrc6298))] H := hP
    have hD : va_D A [(h0, .inr (12, [.ref nw, .ref nk, .int mhasKept, .ref nt, .int mtaped, .ref nr, .int mrowMany, .int mroundOf, .int mroundFrom, .int mouts, .ref nm, .int mfromHour, .int mtoHour, .ref ns, .int mfrom, .int mto, .int msort, .int misFault, .int mdeep, .int mcoded, .int mlines, .ref nl, .ref nc, .ref nF, .ref np, .ref ntr, .ref nb, .int mbestCost, .ref nso, .ref nsi, .ref nit, .ref nsh, .ref nsf, .ref nss, .ref nrc, .int (nI jr16296), .int 2, .int mnumber, .int mwhose, .int msize, .int ip16297])), (nrc, .inl (G.2.1, 30, .inl gtrc6298))] := hD
    obtain ⟨hr6294, w6299⟩ := hr6294
    exact RI (v := r6294) hC hP hD hS [0, 1] (jr16296, ip16297, gtrc6298) rfl rfl (by decide) (⟨trivial, by omega⟩) rfl dX12_dealt_10
  · refine iV (wr := []) hC hK hl hP hD hS hA (m_from33 l G h0 xx nw nk mhasKept nt mtaped nr mrowMany mroundOf mroundFrom mouts nm mfromHour mtoHour ns mfrom mto msort misFault mdeep mcoded mlines nl nc nF np ntr nb mbestCost nso nsi nit nsh nsf nss nrc jr 3 mnumber mwhose msize misParted fnrc (by omega) (by omega)) si_X12_357 [0, 1] [] rfl rfl (by decide) rfl (by decide) (by decide) rfl rfl rfl rfl rfl (Nat.le_of_ble_eq_true rfl) ⟨Nat.le_of_ble_eq_true rfl, Nat.le_of_ble_eq_true rfl⟩ ⟨Nat.le_of_ble_eq_true rfl, Nat.le_of_ble_eq_true rfl⟩ dX12_dealt_7 (fun r6300 u6301 H locs hr6300 hP hD hS => ?_)
    obtain ⟨jr16302, ip16303, gtrc6304⟩ := u6301
    try dsimp only at hr6300
    have hP : va_P G.1 vwCl [(h0, .inr (12, [.ref nw, .ref nk, .int mhasKept, .ref nt, .int mtaped, .ref nr, .int mrowMany, .int mroundOf, .int mroundFrom, .int mouts, .ref nm, .int mfromHour, .int mtoHour, .ref ns, .int mfrom, .int mto, .int msort, .int misFault, .int mdeep, .int mcoded, .int mlines, .ref nl, .ref nc, .ref nF, .ref np, .ref ntr, .ref nb, .int mbestCost, .ref nso, .ref nsi, .ref nit, .ref nsh, .ref nsf, .ref nss, .ref nrc, .int (nI jr16302), .int 3, .int mnumber, .int mwhose, .int msize, .int ip16303])), (nrc, .inl (G.2.1, 30, .inl gtrc6304))] H := hP
    have hD : va_D A [(h0, .inr (12, [.ref nw, .ref nk, .int mhasKept, .ref nt, .int mtaped, .ref nr, .int mrowMany, .int mroundOf, .int mroundFrom, .int mouts, .ref nm, .int mfromHour, .int mtoHour, .ref ns, .int mfrom, .int mto, .int msort, .int misFault, .int mdeep, .int mcoded, .int mlines, .ref nl, .ref nc, .ref nF, .ref np, .ref ntr, .ref nb, .int mbestCost, .ref nso, .ref nsi, .ref nit, .ref nsh, .ref nsf, .ref nss, .ref nrc, .int (nI jr16302), .int 3, .int mnumber, .int mwhose, .int msize, .int ip16303])), (nrc, .inl (G.2.1, 30, .inl gtrc6304))] := hD
    obtain ⟨hr6300, w6305⟩ := hr6300
    exact RI (v := r6300) hC hP hD hS [0, 1] (jr16302, ip16303, gtrc6304) rfl rfl (by decide) (⟨trivial, by omega⟩) rfl dX12_dealt_10
  · refine iV (wr := []) hC hK hl hP hD hS hA (m_from43 l G h0 xx nw nk mhasKept nt mtaped nr mrowMany mroundOf mroundFrom mouts nm mfromHour mtoHour ns mfrom mto msort misFault mdeep mcoded mlines nl nc nF np ntr nb mbestCost nso nsi nit nsh nsf nss nrc jr 4 mnumber mwhose msize misParted fnrc (by omega) (by omega)) si_X12_357 [0, 1] [] rfl rfl (by decide) rfl (by decide) (by decide) rfl rfl rfl rfl rfl (Nat.le_of_ble_eq_true rfl) ⟨Nat.le_of_ble_eq_true rfl, Nat.le_of_ble_eq_true rfl⟩ ⟨Nat.le_of_ble_eq_true rfl, Nat.le_of_ble_eq_true rfl⟩ dX12_dealt_7 (fun r6306 u6307 H locs hr6306 hP hD hS => ?_)
    obtain ⟨jr16308, ip16309, gtrc6310⟩ := u6307
    try dsimp only at hr6306
    have hP : va_P G.1 vwCl [(h0, .inr (12, [.ref nw, .ref nk, .int mhasKept, .ref nt, .int mtaped, .ref nr, .int mrowMany, .int mroundOf, .int mroundFrom, .int mouts, .ref nm, .int mfromHour, .int mtoHour, .ref ns, .int mfrom, .int mto, .int msort, .int misFault, .int mdeep, .int mcoded, .int mlines, .ref nl, .ref nc, .ref nF, .ref np, .ref ntr, .ref nb, .int mbestCost, .ref nso, .ref nsi, .ref nit, .ref nsh, .ref nsf, .ref nss, .ref nrc, .int (nI jr16308), .int 4, .int mnumber, .int mwhose, .int msize, .int ip16309])), (nrc, .inl (G.2.1, 30, .inl gtrc6310))] H := hP
    have hD : va_D A [(h0, .inr (12, [.ref nw, .ref nk, .int mhasKept, .ref nt, .int mtaped, .ref nr, .int mrowMany, .int mroundOf, .int mroundFrom, .int mouts, .ref nm, .int mfromHour, .int mtoHour, .ref ns, .int mfrom, .int mto, .int msort, .int misFault, .int mdeep, .int mcoded, .int mlines, .ref nl, .ref nc, .ref nF, .ref np, .ref ntr, .ref nb, .int mbestCost, .ref nso, .ref nsi, .ref nit, .ref nsh, .ref nsf, .ref nss, .ref nrc, .int (nI jr16308), .int 4, .int mnumber, .int mwhose, .int msize, .int ip16309])), (nrc, .inl (G.2.1, 30, .inl gtrc6310))] := hD
    obtain ⟨hr6306, w6311⟩ := hr6306
    exact RI (v := r6306) hC hP hD hS [0, 1] (jr16308, ip16309, gtrc6310) rfl rfl (by decide) (⟨trivial, by omega⟩) rfl dX12_dealt_10
  · refine iV (wr := []) hC hK hl hP hD hS hA (m_from53 l G h0 xx nw nk mhasKept nt mtaped nr mrowMany mroundOf mroundFrom mouts nm mfromHour mtoHour ns mfrom mto msort misFault mdeep mcoded mlines nl nc nF np ntr nb mbestCost nso nsi nit nsh nsf nss nrc jr 5 mnumber mwhose msize misParted fnrc (by omega) (by omega)) si_X12_357 [0, 1] [] rfl rfl (by decide) rfl (by decide) (by decide) rfl rfl rfl rfl rfl (Nat.le_of_ble_eq_true rfl) ⟨Nat.le_of_ble_eq_true rfl, Nat.le_of_ble_eq_true rfl⟩ ⟨Nat.le_of_ble_eq_true rfl, Nat.le_of_ble_eq_true rfl⟩ dX12_dealt_7 (fun r6312 u6313 H locs hr6312 hP hD hS => ?_)
    obtain ⟨jr16314, ip16315, gtrc6316⟩ := u6313
    try dsimp only at hr6312
    have hP : va_P G.1 vwCl [(h0, .inr (12, [.ref nw, .ref nk, .int mhasKept, .ref nt, .int mtaped, .ref nr, .int mrowMany, .int mroundOf, .int mroundFrom, .int mouts, .ref nm, .int mfromHour, .int mtoHour, .ref ns, .int mfrom, .int mto, .int msort, .int misFault, .int mdeep, .int mcoded, .int mlines, .ref nl, .ref nc, .ref nF, .ref np, .ref ntr, .ref nb, .int mbestCost, .ref nso, .ref nsi, .ref nit, .ref nsh, .ref nsf, .ref nss, .ref nrc, .int (nI jr16314), .int 5, .int mnumber, .int mwhose, .int msize, .int ip16315])), (nrc, .inl (G.2.1, 30, .inl gtrc6316))] H := hP
    have hD : va_D A [(h0, .inr (12, [.ref nw, .ref nk, .int mhasKept, .ref nt, .int mtaped, .ref nr, .int mrowMany, .int mroundOf, .int mroundFrom, .int mouts, .ref nm, .int mfromHour, .int mtoHour, .ref ns, .int mfrom, .int mto, .int msort, .int misFault, .int mdeep, .int mcoded, .int mlines, .ref nl, .ref nc, .ref nF, .ref np, .ref ntr, .ref nb, .int mbestCost, .ref nso, .ref nsi, .ref nit, .ref nsh, .ref nsf, .ref nss, .ref nrc, .int (nI jr16314), .int 5, .int mnumber, .int mwhose, .int msize, .int ip16315])), (nrc, .inl (G.2.1, 30, .inl gtrc6316))] := hD
    obtain ⟨hr6312, w6317⟩ := hr6312
    exact RI (v := r6312) hC hP hD hS [0, 1] (jr16314, ip16315, gtrc6316) rfl rfl (by decide) (⟨trivial, by omega⟩) rfl dX12_dealt_10
  · refine iV (wr := []) hC hK hl hP hD hS hA (m_from63 l G h0 xx nw nk mhasKept nt mtaped nr mrowMany mroundOf mroundFrom mouts nm mfromHour mtoHour ns mfrom mto msort misFault mdeep mcoded mlines nl nc nF np ntr nb mbestCost nso nsi nit nsh nsf nss nrc jr 6 mnumber mwhose msize misParted fnrc (by omega) (by omega)) si_X12_357 [0, 1] [] rfl rfl (by decide) rfl (by decide) (by decide) rfl rfl rfl rfl rfl (Nat.le_of_ble_eq_true rfl) ⟨Nat.le_of_ble_eq_true rfl, Nat.le_of_ble_eq_true rfl⟩ ⟨Nat.le_of_ble_eq_true rfl, Nat.le_of_ble_eq_true rfl⟩ dX12_dealt_7 (fun r6318 u6319 H locs hr6318 hP hD hS => ?_)
    obtain ⟨jr16320, ip16321, gtrc6322⟩ := u6319
    try dsimp only at hr6318
    have hP : va_P G.1 vwCl [(h0, .inr (12, [.ref nw, .ref nk, .int mhasKept, .ref nt, .int mtaped, .ref nr, .int mrowMany, .int mroundOf, .int mroundFrom, .int mouts, .ref nm, .int mfromHour, .int mtoHour, .ref ns, .int mfrom, .int mto, .int msort, .int misFault, .int mdeep, .int mcoded, .int mlines, .ref nl, .ref nc, .ref nF, .ref np, .ref ntr, .ref nb, .int mbestCost, .ref nso, .ref nsi, .ref nit, .ref nsh, .ref nsf, .ref nss, .ref nrc, .int (nI jr16320), .int 6, .int mnumber, .int mwhose, .int msize, .int ip16321])), (nrc, .inl (G.2.1, 30, .inl gtrc6322))] H := hP
    have hD : va_D A [(h0, .inr (12, [.ref nw, .ref nk, .int mhasKept, .ref nt, .int mtaped, .ref nr, .int mrowMany, .int mroundOf, .int mroundFrom, .int mouts, .ref nm, .int mfromHour, .int mtoHour, .ref ns, .int mfrom, .int mto, .int msort, .int misFault, .int mdeep, .int mcoded, .int mlines, .ref nl, .ref nc, .ref nF, .ref np, .ref ntr, .ref nb, .int mbestCost, .ref nso, .ref nsi, .ref nit, .ref nsh, .ref nsf, .ref nss, .ref nrc, .int (nI jr16320), .int 6, .int mnumber, .int mwhose, .int msize, .int ip16321])), (nrc, .inl (G.2.1, 30, .inl gtrc6322))] := hD
    obtain ⟨hr6318, w6323⟩ := hr6318
    exact RI (v := r6318) hC hP hD hS [0, 1] (jr16320, ip16321, gtrc6322) rfl rfl (by decide) (⟨trivial, by omega⟩) rfl dX12_dealt_10
set_option maxHeartbeats 4000000 in
set_option maxRecDepth 100000 in
theorem w_deal (l : Launch) (G : GG) (h0 : Nat) (x1 : Int32) (x2 : Int32) (x3 : Int32) (nw : Nat) (nk : Nat) (mhasKept : Int32) (nt : Nat) (mtaped : Int32) (nr : Nat) (mrowMany : Int32) (mroundOf : Int32) (mroundFrom : Int32) (mouts : Int32) (nm : Nat) (mfromHour : Int32) (mtoHour : Int32) (ns : Nat) (mfrom : Int32) (mto : Int32) (msort : Int32) (misFault : Int32) (mdeep : Int32) (mcoded : Int32) (mlines : Int32) (nl : Nat) (nc : Nat) (nF : Nat) (np : Nat) (ntr : Nat) (nb : Nat) (mbestCost : Int32) (nso : Nat) (nsi : Nat) (nit : Nat) (nsh : Nat) (nsf : Nat) (nss : Nat) (nrc : Nat) (mtraced : Int32) (mdealer : Int32) (mnumber : Int32) (mwhose : Int32) (msize : Int32) (misParted : Int32) (fnw : Nat → Int32) (fnsh : Nat → Int32) (fnsf : Nat → Int32) (fnrc : Nat → Int32) (hN : NI fnw) : MI l G yX12_deal cX12_deal 8 (some .int) 60 0 0 [.ref h0, .int x1, .int x2, .int x3] [(h0, .inr (12, [.ref nw, .ref nk, .int mhasKept, .ref nt, .int mtaped, .ref nr, .int mrowMany, .int mroundOf, .int mroundFrom, .int mouts, .ref nm, .int mfromHour, .int mtoHour, .ref ns, .int mfrom, .int mto, .int msort, .int misFault, .int mdeep, .int mcoded, .int mlines, .ref nl, .ref nc, .ref nF, .ref np, .ref ntr, .ref nb, .int mbestCost, .ref nso, .ref nsi, .ref nit, .ref nsh, .ref nsf, .ref nss, .ref nrc, .int mtraced, .int mdealer, .int mnumber, .int mwhose, .int msize, .int misParted])), (nw, .inl (G.2.1, 1662, .inl fnw)), (nsh, .inl (G.2.1, 4, .inl fnsh)), (nsf, .inl (G.2.1, 4, .inl fnsf)), (nrc, .inl (G.2.1, 30, .inl fnrc))] (fun (r : Int32) (u : Nat × Int32 × Int32 × Int32 × Int32 × Int32 × (Nat → Int32)) => (True) ∧ (u.1 ≤ 30)) (fun u : Nat × Int32 × Int32 × Int32 × Int32 × Int32 × (Nat → Int32) => [(h0, .inr (12, [.ref nw, .ref nk, .int mhasKept, .ref nt, .int mtaped, .ref nr, .int mrowMany, .int mroundOf, .int mroundFrom, .int mouts, .ref nm, .int mfromHour, .int mtoHour, .ref ns, .int mfrom, .int mto, .int msort, .int misFault, .int mdeep, .int mcoded, .int mlines, .ref nl, .ref nc, .ref nF, .ref np, .ref ntr, .ref nb, .int mbestCost, .ref nso, .ref nsi, .ref nit, .ref nsh, .ref nsf, .ref nss, .ref nrc, .int (nI u.1), .int u.2.1, .int u.2.2.1, .int u.2.2.2.1, .int u.2.2.2.2.1, .int u.2.2.2.2.2.1])), (nw, .inl (G.2.1, 1662, .inl fnw)), (nsh, .inl (G.2.1, 4, .inl fnsh)), (nsf, .inl (G.2.1, 4, .inl fnsf)), (nrc, .inl (G.2.1, 30, .inl u.2.2.2.2.2.2))]) := by
  refine MI.start (by decide +kernel) (Nat.le_of_ble_eq_true rfl) ?_
  intro p e s m below meth c A ls hC hK hP hD hS hA hl
  have hl : lv_has ls 8 [(0, .ref h0), (1, .int x1), (2, .int x2), (3, .int x3)] := hl
  obtain ⟨hx, hb, hr, hml, hB, hown, hlocks, hnm⟩ := id hC
  refine lv_aload_n hx hb dX12_deal_0 rfl (lv_at hl 0 rfl) ?_
  refine lv_iconst (v := 0) hx hb dX12_deal_1 (by decide) ?_
  refine pf_X12_351 hC rfl hK hP hD hS 0 (ws' := [(h0, .inr (12, [.ref nw, .ref nk, .int mhasKept, .ref nt, .int mtaped, .ref nr, .int mrowMany, .int mroundOf, .int mroundFrom, .int mouts, .ref nm, .int mfromHour, .int mtoHour, .ref ns, .int mfrom, .int mto, .int msort, .int misFault, .int mdeep, .int mcoded, .int mlines, .ref nl, .ref nc, .ref nF, .ref np, .ref ntr, .ref nb, .int mbestCost, .ref nso, .ref nsi, .ref nit, .ref nsh, .ref nsf, .ref nss, .ref nrc, .int 0, .int mdealer, .int mnumber, .int mwhose, .int msize, .int misParted])), (nw, .inl (G.2.1, 1662, .inl fnw)), (nsh, .inl (G.2.1, 4, .inl fnsh)), (nsf, .inl (G.2.1, 4, .inl fnsf)), (nrc, .inl (G.2.1, 30, .inl fnrc))]) rfl (Nat.le_of_ble_eq_true rfl) rfl rfl rfl dX12_deal_2 (fun H locs hP hD hS => ?_)
  refine lv_iload_n hx hb dX12_deal_5 rfl (lv_at hl 1 rfl) ?_
  refine pS hC hK hl (m_isFour l G x1) si_X12_336 rfl rfl (Nat.le_of_ble_eq_true rfl) ⟨Nat.le_of_ble_eq_true rfl, Nat.le_of_ble_eq_true rfl⟩ ⟨by first | exact Nat.le_of_ble_eq_true rfl | exact Nat.zero_le _, by first | exact Nat.le_of_ble_eq_true rfl | exact Nat.zero_le _⟩ dX12_deal_6 (fun r6324 hr6324 => ?_)
  rcases hr6324 with ⟨rfl, a6325⟩ | ⟨rfl, a6325⟩
  · refine lv_if_eq (tgt := 19) hx hb dX12_deal_9 (by decide) (fun c9 => absurd c9 (by decide)) (fun _ => ?_)
    refine lv_iload_n hx hb dX12_deal_12 rfl (lv_at hl 2 rfl) ?_
    refine pS hC hK hl (m_isFour l G x2) si_X12_336 rfl rfl (Nat.le_of_ble_eq_true rfl) ⟨Nat.le_of_ble_eq_true rfl, Nat.le_of_ble_eq_true rfl⟩ ⟨by first | exact Nat.le_of_ble_eq_true rfl | exact Nat.zero_le _, by first | exact Nat.le_of_ble_eq_true rfl | exact Nat.zero_le _⟩ dX12_deal_13 (fun r6326 hr6326 => ?_)
    rcases hr6326 with ⟨rfl, a6327⟩ | ⟨rfl, a6327⟩
    · refine lv_if_ne (tgt := 23) hx hb dX12_deal_16 (by decide) (fun _ => ?_) (fun c9 => absurd c9 (by decide))
      obtain ⟨jt, hjt, rfl⟩ := Wi_nat (N := 3) (by decide) a6325
      refine lv_aload_n hx hb dX12_deal_23 rfl (lv_at hl 0 rfl) ?_
      refine lv_iload_n hx hb dX12_deal_24 rfl (lv_at hl 1 rfl) ?_
      refine pV hC hK hl hP hD (m_kindOn l G h0 jt nw nk mhasKept nt mtaped nr mrowMany mroundOf mroundFrom mouts nm mfromHour mtoHour ns mfrom mto msort misFault mdeep mcoded mlines nl nc nF np ntr nb mbestCost nso nsi nit nsh nsf nss nrc 0 mdealer mnumber mwhose msize misParted fnw fnsh fnsf (by omega) (hN)) si_X12_345 [0, 1, 2, 3] rfl rfl (by decide) rfl rfl rfl rfl rfl (Nat.le_of_ble_eq_true rfl) ⟨Nat.le_of_ble_eq_true rfl, Nat.le_of_ble_eq_true rfl⟩ ⟨by first | exact Nat.le_of_ble_eq_true rfl | exact Nat.zero_le _, by first | exact Nat.le_of_ble_eq_true rfl | exact Nat.zero_le _⟩ dX12_deal_25 (fun r6328 hr6328 => ?_)
      rcases hr6328 with rfl | ⟨rfl, a6329⟩ | ⟨rfl, a6329⟩ | ⟨rfl, a6329⟩ | ⟨rfl, a6329⟩ | ⟨rfl, a6329⟩ | ⟨rfl, a6329⟩
      · refine lv_istore (lv' := [(4, .int (-1)), (0, .ref h0), (1, .int (nI jt)), (2, .int x2), (3, .int x3)]) hx hb dX12_deal_28 hl (by decide) rfl (fun ls hl => ?_)
        refine lv_iload hx hb dX12_deal_30 (lv_at hl 0 rfl) ?_
        refine lv_if_ge (tgt := 37) hx hb dX12_deal_32 (by decide) (fun c9 => absurd c9 (by decide)) (fun _ => ?_)
        refine lv_iconst (v := 0) hx hb dX12_deal_35 (by decide) ?_
        exact RI (v := 0) hC hP hD hS [0, 1, 2, 3, 4] (0, mdealer, mnumber, mwhose, msize, misParted, fnrc) rfl rfl (by decide) (⟨trivial, by omega⟩) rfl dX12_deal_36
      · refine lv_istore (lv' := [(4, .int 1), (0, .ref h0), (1, .int (nI jt)), (2, .int x2), (3, .int x3)]) hx hb dX12_deal_28 hl (by decide) rfl (fun ls hl => ?_)
        refine lv_iload hx hb dX12_deal_30 (lv_at hl 0 rfl) ?_
        refine lv_if_ge (tgt := 37) hx hb dX12_deal_32 (by decide) (fun _ => ?_) (fun c9 => absurd (by decide) c9)
        refine lv_aload_n hx hb dX12_deal_37 rfl (lv_at hl 1 rfl) ?_
        refine lv_iload hx hb dX12_deal_38 (lv_at hl 0 rfl) ?_
        refine pf_X12_354 hC rfl hK hP hD hS 0 (ws' := [(h0, .inr (12, [.ref nw, .ref nk, .int mhasKept, .ref nt, .int mtaped, .ref nr, .int mrowMany, .int mroundOf, .int mroundFrom, .int mouts, .ref nm, .int mfromHour, .int mtoHour, .ref ns, .int mfrom, .int mto, .int msort, .int misFault, .int mdeep, .int mcoded, .int mlines, .ref nl, .ref nc, .ref nF, .ref np, .ref ntr, .ref nb, .int mbestCost, .ref nso, .ref nsi, .ref nit, .ref nsh, .ref nsf, .ref nss, .ref nrc, .int 0, .int 1, .int mnumber, .int mwhose, .int msize, .int misParted])), (nw, .inl (G.2.1, 1662, .inl fnw)), (nsh, .inl (G.2.1, 4, .inl fnsh)), (nsf, .inl (G.2.1, 4, .inl fnsf)), (nrc, .inl (G.2.1, 30, .inl fnrc))]) rfl (Nat.le_of_ble_eq_true rfl) rfl rfl rfl dX12_deal_40 (fun H locs hP hD hS => ?_)
        refine lv_aload_n hx hb dX12_deal_43 rfl (lv_at hl 1 rfl) ?_
        refine lv_aload_n hx hb dX12_deal_44 rfl (lv_at hl 1 rfl) ?_
        refine gf_X12_75 hC rfl hK hP 0 rfl rfl dX12_deal_45 ?_
        refine lv_iload_n hx hb dX12_deal_48 rfl (lv_at hl 2 rfl) ?_
        refine ald hC hK hP 3 rfl (vp_in_nI (by omega) (by omega)) (k := jt) (nI_clamp (by omega)) (v := fnsf jt) rfl dX12_deal_49 ?_
        refine lv_topi (fun x6330 ex6330 => ?_)
        obtain ⟨hko9, jno, hjno, ejno⟩ := a6329
        refine eqi (x1 := nI jno) (ex6330.trans ejno) ?_
        refine pf_X12_378 hC rfl hK hP hD hS 0 (ws' := [(h0, .inr (12, [.ref nw, .ref nk, .int mhasKept, .ref nt, .int mtaped, .ref nr, .int mrowMany, .int mroundOf, .int mroundFrom, .int mouts, .ref nm, .int mfromHour, .int mtoHour, .ref ns, .int mfrom, .int mto, .int msort, .int misFault, .int mdeep, .int mcoded, .int mlines, .ref nl, .ref nc, .ref nF, .ref np, .ref ntr, .ref nb, .int mbestCost, .ref nso, .ref nsi, .ref nit, .ref nsh, .ref nsf, .ref nss, .ref nrc, .int 0, .int 1, .int (nI jno), .int mwhose, .int msize, .int misParted])), (nw, .inl (G.2.1, 1662, .inl fnw)), (nsh, .inl (G.2.1, 4, .inl fnsh)), (nsf, .inl (G.2.1, 4, .inl fnsf)), (nrc, .inl (G.2.1, 30, .inl fnrc))]) rfl (Nat.le_of_ble_eq_true rfl) rfl rfl rfl dX12_deal_50 (fun H locs hP hD hS => ?_)
        refine lv_aload_n hx hb dX12_deal_53 rfl (lv_at hl 1 rfl) ?_
        refine gf_X12_72 hC rfl hK hP 0 rfl rfl dX12_deal_54 ?_
        refine lv_iload_n hx hb dX12_deal_57 rfl (lv_at hl 2 rfl) ?_
        refine ald hC hK hP 2 rfl (vp_in_nI (by omega) (by omega)) (k := jt) (nI_clamp (by omega)) (v := fnsh jt) rfl dX12_deal_58 ?_
        refine lv_topi (fun x6331 ex6331 => ?_)
        refine lv_iconst (v := 1) hx hb dX12_deal_59 (by decide) ?_
        refine lv_icmp_ne (tgt := 67) hx hb dX12_deal_60 (by decide) (fun c9 => absurd (ex6331.trans hko9) c9) (fun _ => ?_)
        refine lv_iconst (v := 1) hx hb dX12_deal_63 (by decide) ?_
        refine lv_goto (tgt := 68) hx hb dX12_deal_64 (by decide) ?_
        refine lv_istore (lv' := [(5, .int 1), (4, .int 1), (0, .ref h0), (1, .int (nI jt)), (2, .int x2), (3, .int x3)]) hx hb dX12_deal_68 hl (by decide) rfl (fun ls hl => ?_)
        refine lv_aload_n hx hb dX12_deal_70 rfl (lv_at hl 2 rfl) ?_
        refine gf_X12_72 hC rfl hK hP 0 rfl rfl dX12_deal_71 ?_
        refine lv_iload_n hx hb dX12_deal_74 rfl (lv_at hl 3 rfl) ?_
        refine ald hC hK hP 2 rfl (vp_in_nI (by omega) (by omega)) (k := jt) (nI_clamp (by omega)) (v := fnsh jt) rfl dX12_deal_75 ?_
        refine lv_topi (fun x6332 ex6332 => ?_)
        refine lv_iconst (v := 2) hx hb dX12_deal_76 (by decide) ?_
        refine lv_icmp_ne (tgt := 84) hx hb dX12_deal_77 (by decide) (fun _ => ?_) (fun c9 => absurd c9 (fun h9 => absurd (hko9.symm.trans ((ex6332.symm).trans h9)) (by decide)))
        refine lv_iconst (v := 0) hx hb dX12_deal_84 (by decide) ?_
        refine lv_istore (lv' := [(6, .int 0), (5, .int 1), (4, .int 1), (0, .ref h0), (1, .int (nI jt)), (2, .int x2), (3, .int x3)]) hx hb dX12_deal_85 hl (by decide) rfl (fun ls hl => ?_)
        refine lv_aload_n hx hb dX12_deal_87 rfl (lv_at hl 3 rfl) ?_
        refine lv_iload hx hb dX12_deal_88 (lv_at hl 1 rfl) ?_
        refine lv_if_eq (tgt := 105) hx hb dX12_deal_90 (by decide) (fun c9 => absurd c9 (by decide)) (fun _ => ?_)
        refine lv_aload_n hx hb dX12_deal_93 rfl (lv_at hl 3 rfl) ?_
        refine lv_aload_n hx hb dX12_deal_94 rfl (lv_at hl 3 rfl) ?_
        refine gf_X12_378 hC rfl hK hP 0 rfl rfl dX12_deal_95 ?_
        refine lv_iconst (v := 0) hx hb dX12_deal_98 (by decide) ?_
        refine pV hC hK hl hP hD (m_paper l G h0 jno 0 nw nk mhasKept nt mtaped nr mrowMany mroundOf mroundFrom mouts nm mfromHour mtoHour ns mfrom mto msort misFault mdeep mcoded mlines nl nc nF np ntr nb mbestCost nso nsi nit nsh nsf nss nrc 0 1 (nI jno) mwhose msize misParted fnw (by omega) (by omega)) si_X12_88 [0, 1] rfl rfl (by decide) rfl rfl rfl rfl rfl (Nat.le_of_ble_eq_true rfl) ⟨Nat.le_of_ble_eq_true rfl, Nat.le_of_ble_eq_true rfl⟩ ⟨by first | exact Nat.le_of_ble_eq_true rfl | exact Nat.zero_le _, by first | exact Nat.le_of_ble_eq_true rfl | exact Nat.zero_le _⟩ dX12_deal_99 (fun r6333 hr6333 => ?_)
        obtain rfl := hr6333
        refine lv_goto (tgt := 139) hx hb dX12_deal_102 (by decide) ?_
        refine pf_X12_375 hC rfl hK hP hD hS 0 (ws' := [(h0, .inr (12, [.ref nw, .ref nk, .int mhasKept, .ref nt, .int mtaped, .ref nr, .int mrowMany, .int mroundOf, .int mroundFrom, .int mouts, .ref nm, .int mfromHour, .int mtoHour, .ref ns, .int mfrom, .int mto, .int msort, .int misFault, .int mdeep, .int mcoded, .int mlines, .ref nl, .ref nc, .ref nF, .ref np, .ref ntr, .ref nb, .int mbestCost, .ref nso, .ref nsi, .ref nit, .ref nsh, .ref nsf, .ref nss, .ref nrc, .int 0, .int 1, .int (nI jno), .int (fnw (32 + 6 * jno + 0)), .int msize, .int misParted])), (nw, .inl (G.2.1, 1662, .inl fnw)), (nsh, .inl (G.2.1, 4, .inl fnsh)), (nsf, .inl (G.2.1, 4, .inl fnsf)), (nrc, .inl (G.2.1, 30, .inl fnrc))]) rfl (Nat.le_of_ble_eq_true rfl) rfl rfl rfl dX12_deal_139 (fun H locs hP hD hS => ?_)
        refine lv_aload_n hx hb dX12_deal_142 rfl (lv_at hl 3 rfl) ?_
        refine lv_iload hx hb dX12_deal_143 (lv_at hl 1 rfl) ?_
        refine lv_if_eq (tgt := 160) hx hb dX12_deal_145 (by decide) (fun c9 => absurd c9 (by decide)) (fun _ => ?_)
        refine lv_aload_n hx hb dX12_deal_148 rfl (lv_at hl 3 rfl) ?_
        refine lv_aload_n hx hb dX12_deal_149 rfl (lv_at hl 3 rfl) ?_
        refine gf_X12_378 hC rfl hK hP 0 rfl rfl dX12_deal_150 ?_
        refine lv_iconst (v := 2) hx hb dX12_deal_153 (by decide) ?_
        refine pV hC hK hl hP hD (m_paper l G h0 jno 2 nw nk mhasKept nt mtaped nr mrowMany mroundOf mroundFrom mouts nm mfromHour mtoHour ns mfrom mto msort misFault mdeep mcoded mlines nl nc nF np ntr nb mbestCost nso nsi nit nsh nsf nss nrc 0 1 (nI jno) (fnw (32 + 6 * jno + 0)) msize misParted fnw (by omega) (by omega)) si_X12_88 [0, 1] rfl rfl (by decide) rfl rfl rfl rfl rfl (Nat.le_of_ble_eq_true rfl) ⟨Nat.le_of_ble_eq_true rfl, Nat.le_of_ble_eq_true rfl⟩ ⟨by first | exact Nat.le_of_ble_eq_true rfl | exact Nat.zero_le _, by first | exact Nat.le_of_ble_eq_true rfl | exact Nat.zero_le _⟩ dX12_deal_154 (fun r6335 hr6335 => ?_)
        obtain rfl := hr6335
        refine lv_goto (tgt := 194) hx hb dX12_deal_157 (by decide) ?_
        refine pf_X12_369 hC rfl hK hP hD hS 0 (ws' := [(h0, .inr (12, [.ref nw, .ref nk, .int mhasKept, .ref nt, .int mtaped, .ref nr, .int mrowMany, .int mroundOf, .int mroundFrom, .int mouts, .ref nm, .int mfromHour, .int mtoHour, .ref ns, .int mfrom, .int mto, .int msort, .int misFault, .int mdeep, .int mcoded, .int mlines, .ref nl, .ref nc, .ref nF, .ref np, .ref ntr, .ref nb, .int mbestCost, .ref nso, .ref nsi, .ref nit, .ref nsh, .ref nsf, .ref nss, .ref nrc, .int 0, .int 1, .int (nI jno), .int (fnw (32 + 6 * jno + 0)), .int (fnw (32 + 6 * jno + 2)), .int misParted])), (nw, .inl (G.2.1, 1662, .inl fnw)), (nsh, .inl (G.2.1, 4, .inl fnsh)), (nsf, .inl (G.2.1, 4, .inl fnsf)), (nrc, .inl (G.2.1, 30, .inl fnrc))]) rfl (Nat.le_of_ble_eq_true rfl) rfl rfl rfl dX12_deal_194 (fun H locs hP hD hS => ?_)
        refine lv_aload_n hx hb dX12_deal_197 rfl (lv_at hl 3 rfl) ?_
        refine lv_iconst (v := 0) hx hb dX12_deal_198 (by decide) ?_
        refine pf_X12_380 hC rfl hK hP hD hS 0 (ws' := [(h0, .inr (12, [.ref nw, .ref nk, .int mhasKept, .ref nt, .int mtaped, .ref nr, .int mrowMany, .int mroundOf, .int mroundFrom, .int mouts, .ref nm, .int mfromHour, .int mtoHour, .ref ns, .int mfrom, .int mto, .int msort, .int misFault, .int mdeep, .int mcoded, .int mlines, .ref nl, .ref nc, .ref nF, .ref np, .ref ntr, .ref nb, .int mbestCost, .ref nso, .ref nsi, .ref nit, .ref nsh, .ref nsf, .ref nss, .ref nrc, .int 0, .int 1, .int (nI jno), .int (fnw (32 + 6 * jno + 0)), .int (fnw (32 + 6 * jno + 2)), .int 0])), (nw, .inl (G.2.1, 1662, .inl fnw)), (nsh, .inl (G.2.1, 4, .inl fnsh)), (nsf, .inl (G.2.1, 4, .inl fnsf)), (nrc, .inl (G.2.1, 30, .inl fnrc))]) rfl (Nat.le_of_ble_eq_true rfl) rfl (by decide +kernel) (by decide +kernel) dX12_deal_199 (fun H locs hP hD hS => ?_)
        obtain ⟨jdl, hjdl, rfl⟩ := Wi_nat (N := 3) (by decide) a6327
        rcases (show jdl = 0 ∨ jdl = 1 ∨ jdl = 2 ∨ jdl = 3 by omega) with rfl | rfl | rfl | rfl
        · refine lv_aload_n hx hb dX12_deal_202 rfl (lv_at hl 3 rfl) ?_
          refine lv_iload_n hx hb dX12_deal_203 rfl (lv_at hl 5 rfl) ?_
          refine lv_iload_n hx hb dX12_deal_204 rfl (lv_at hl 6 rfl) ?_
          refine iV (wr := [(nw, .inl (G.2.1, 1662, .inl fnw)), (nsh, .inl (G.2.1, 4, .inl fnsh)), (nsf, .inl (G.2.1, 4, .inl fnsf))]) hC hK hl hP hD hS hA (m_dealt0 l G h0 x3 nw nk mhasKept nt mtaped nr mrowMany mroundOf mroundFrom mouts nm mfromHour mtoHour ns mfrom mto msort misFault mdeep mcoded mlines nl nc nF np ntr nb mbestCost nso nsi nit nsh nsf nss nrc 0 1 (nI jno) (fnw (32 + 6 * jno + 0)) (fnw (32 + 6 * jno + 2)) 0 fnrc (by omega) (by omega)) si_X12_372 [0, 4] [1, 2, 3] rfl rfl (by decide) rfl (by decide) (by decide) rfl rfl rfl rfl rfl (Nat.le_of_ble_eq_true rfl) ⟨Nat.le_of_ble_eq_true rfl, Nat.le_of_ble_eq_true rfl⟩ ⟨Nat.le_of_ble_eq_true rfl, Nat.le_of_ble_eq_true rfl⟩ dX12_deal_205 (fun r6337 u6338 H locs hr6337 hP hD hS => ?_)
          obtain ⟨jr16339, ip16340, gtrc6341⟩ := u6338
          try dsimp only at hr6337
          have hP : va_P G.1 vwCl [(nw, .inl (G.2.1, 1662, .inl fnw)), (nsh, .inl (G.2.1, 4, .inl fnsh)), (nsf, .inl (G.2.1, 4, .inl fnsf)), (h0, .inr (12, [.ref nw, .ref nk, .int mhasKept, .ref nt, .int mtaped, .ref nr, .int mrowMany, .int mroundOf, .int mroundFrom, .int mouts, .ref nm, .int mfromHour, .int mtoHour, .ref ns, .int mfrom, .int mto, .int msort, .int misFault, .int mdeep, .int mcoded, .int mlines, .ref nl, .ref nc, .ref nF, .ref np, .ref ntr, .ref nb, .int mbestCost, .ref nso, .ref nsi, .ref nit, .ref nsh, .ref nsf, .ref nss, .ref nrc, .int (nI jr16339), .int 1, .int (nI jno), .int (fnw (32 + 6 * jno + 0)), .int (fnw (32 + 6 * jno + 2)), .int ip16340])), (nrc, .inl (G.2.1, 30, .inl gtrc6341))] H := hP
          have hD : va_D A [(nw, .inl (G.2.1, 1662, .inl fnw)), (nsh, .inl (G.2.1, 4, .inl fnsh)), (nsf, .inl (G.2.1, 4, .inl fnsf)), (h0, .inr (12, [.ref nw, .ref nk, .int mhasKept, .ref nt, .int mtaped, .ref nr, .int mrowMany, .int mroundOf, .int mroundFrom, .int mouts, .ref nm, .int mfromHour, .int mtoHour, .ref ns, .int mfrom, .int mto, .int msort, .int misFault, .int mdeep, .int mcoded, .int mlines, .ref nl, .ref nc, .ref nF, .ref np, .ref ntr, .ref nb, .int mbestCost, .ref nso, .ref nsi, .ref nit, .ref nsh, .ref nsf, .ref nss, .ref nrc, .int (nI jr16339), .int 1, .int (nI jno), .int (fnw (32 + 6 * jno + 0)), .int (fnw (32 + 6 * jno + 2)), .int ip16340])), (nrc, .inl (G.2.1, 30, .inl gtrc6341))] := hD
          obtain ⟨hr6337, w6342⟩ := hr6337
          refine lv_istore (lv' := [(7, .int r6337), (6, .int 0), (5, .int 1), (4, .int 1), (0, .ref h0), (1, .int (nI jt)), (2, .int 0), (3, .int x3)]) hx hb dX12_deal_208 hl (by decide) rfl (fun ls hl => ?_)
          refine lv_aload_n hx hb dX12_deal_210 rfl (lv_at hl 4 rfl) ?_
          refine gf_X12_380 hC rfl hK hP 3 rfl rfl dX12_deal_211 ?_
          refine lv_if_eq (tgt := 222) hx hb dX12_deal_214 (by decide) (fun c_214_6343 => ?_) (fun c_214_6343 => ?_)
          · refine lv_iload hx hb dX12_deal_222 (lv_at hl 0 rfl) ?_
            exact RI (v := r6337) hC hP hD hS [3, 0, 1, 2, 4] (jr16339, 1, nI jno, fnw (32 + 6 * jno + 0), fnw (32 + 6 * jno + 2), ip16340, gtrc6341) rfl rfl (by decide) (⟨trivial, by omega⟩) rfl dX12_deal_224
          · refine lv_bipush (v := (-15)) hx hb dX12_deal_217 (by decide) ?_
            refine lv_goto (tgt := 224) hx hb dX12_deal_219 (by decide) ?_
            exact RI (v := (-15)) hC hP hD hS [3, 0, 1, 2, 4] (jr16339, 1, nI jno, fnw (32 + 6 * jno + 0), fnw (32 + 6 * jno + 2), ip16340, gtrc6341) rfl rfl (by decide) (⟨trivial, by omega⟩) rfl dX12_deal_224
        · refine lv_aload_n hx hb dX12_deal_202 rfl (lv_at hl 3 rfl) ?_
          refine lv_iload_n hx hb dX12_deal_203 rfl (lv_at hl 5 rfl) ?_
          refine lv_iload_n hx hb dX12_deal_204 rfl (lv_at hl 6 rfl) ?_
          refine iV (wr := [(nw, .inl (G.2.1, 1662, .inl fnw)), (nsh, .inl (G.2.1, 4, .inl fnsh)), (nsf, .inl (G.2.1, 4, .inl fnsf))]) hC hK hl hP hD hS hA (m_dealt1 l G h0 x3 nw nk mhasKept nt mtaped nr mrowMany mroundOf mroundFrom mouts nm mfromHour mtoHour ns mfrom mto msort misFault mdeep mcoded mlines nl nc nF np ntr nb mbestCost nso nsi nit nsh nsf nss nrc 0 1 (nI jno) (fnw (32 + 6 * jno + 0)) (fnw (32 + 6 * jno + 2)) 0 fnrc (by omega) (by omega)) si_X12_372 [0, 4] [1, 2, 3] rfl rfl (by decide) rfl (by decide) (by decide) rfl rfl rfl rfl rfl (Nat.le_of_ble_eq_true rfl) ⟨Nat.le_of_ble_eq_true rfl, Nat.le_of_ble_eq_true rfl⟩ ⟨Nat.le_of_ble_eq_true rfl, Nat.le_of_ble_eq_true rfl⟩ dX12_deal_205 (fun r6344 u6345 H locs hr6344 hP hD hS => ?_)
          obtain ⟨jr16346, ip16347, gtrc6348⟩ := u6345
          try dsimp only at hr6344
          have hP : va_P G.1 vwCl [(nw, .inl (G.2.1, 1662, .inl fnw)), (nsh, .inl (G.2.1, 4, .inl fnsh)), (nsf, .inl (G.2.1, 4, .inl fnsf)), (h0, .inr (12, [.ref nw, .ref nk, .int mhasKept, .ref nt, .int mtaped, .ref nr, .int mrowMany, .int mroundOf, .int mroundFrom, .int mouts, .ref nm, .int mfromHour, .int mtoHour, .ref ns, .int mfrom, .int mto, .int msort, .int misFault, .int mdeep, .int mcoded, .int mlines, .ref nl, .ref nc, .ref nF, .ref np, .ref ntr, .ref nb, .int mbestCost, .ref nso, .ref nsi, .ref nit, .ref nsh, .ref nsf, .ref nss, .ref nrc, .int (nI jr16346), .int 1, .int (nI jno), .int (fnw (32 + 6 * jno + 0)), .int (fnw (32 + 6 * jno + 2)), .int ip16347])), (nrc, .inl (G.2.1, 30, .inl gtrc6348))] H := hP
          have hD : va_D A [(nw, .inl (G.2.1, 1662, .inl fnw)), (nsh, .inl (G.2.1, 4, .inl fnsh)), (nsf, .inl (G.2.1, 4, .inl fnsf)), (h0, .inr (12, [.ref nw, .ref nk, .int mhasKept, .ref nt, .int mtaped, .ref nr, .int mrowMany, .int mroundOf, .int mroundFrom, .int mouts, .ref nm, .int mfromHour, .int mtoHour, .ref ns, .int mfrom, .int mto, .int msort, .int misFault, .int mdeep, .int mcoded, .int mlines, .ref nl, .ref nc, .ref nF, .ref np, .ref ntr, .ref nb, .int mbestCost, .ref nso, .ref nsi, .ref nit, .ref nsh, .ref nsf, .ref nss, .ref nrc, .int (nI jr16346), .int 1, .int (nI jno), .int (fnw (32 + 6 * jno + 0)), .int (fnw (32 + 6 * jno + 2)), .int ip16347])), (nrc, .inl (G.2.1, 30, .inl gtrc6348))] := hD
          obtain ⟨hr6344, w6349⟩ := hr6344
          refine lv_istore (lv' := [(7, .int r6344), (6, .int 0), (5, .int 1), (4, .int 1), (0, .ref h0), (1, .int (nI jt)), (2, .int 1), (3, .int x3)]) hx hb dX12_deal_208 hl (by decide) rfl (fun ls hl => ?_)
          refine lv_aload_n hx hb dX12_deal_210 rfl (lv_at hl 4 rfl) ?_
          refine gf_X12_380 hC rfl hK hP 3 rfl rfl dX12_deal_211 ?_
          refine lv_if_eq (tgt := 222) hx hb dX12_deal_214 (by decide) (fun c_214_6350 => ?_) (fun c_214_6350 => ?_)
          · refine lv_iload hx hb dX12_deal_222 (lv_at hl 0 rfl) ?_
            exact RI (v := r6344) hC hP hD hS [3, 0, 1, 2, 4] (jr16346, 1, nI jno, fnw (32 + 6 * jno + 0), fnw (32 + 6 * jno + 2), ip16347, gtrc6348) rfl rfl (by decide) (⟨trivial, by omega⟩) rfl dX12_deal_224
          · refine lv_bipush (v := (-15)) hx hb dX12_deal_217 (by decide) ?_
            refine lv_goto (tgt := 224) hx hb dX12_deal_219 (by decide) ?_
            exact RI (v := (-15)) hC hP hD hS [3, 0, 1, 2, 4] (jr16346, 1, nI jno, fnw (32 + 6 * jno + 0), fnw (32 + 6 * jno + 2), ip16347, gtrc6348) rfl rfl (by decide) (⟨trivial, by omega⟩) rfl dX12_deal_224
        · refine lv_aload_n hx hb dX12_deal_202 rfl (lv_at hl 3 rfl) ?_
          refine lv_iload_n hx hb dX12_deal_203 rfl (lv_at hl 5 rfl) ?_
          refine lv_iload_n hx hb dX12_deal_204 rfl (lv_at hl 6 rfl) ?_
          refine iV (wr := [(nw, .inl (G.2.1, 1662, .inl fnw)), (nsh, .inl (G.2.1, 4, .inl fnsh)), (nsf, .inl (G.2.1, 4, .inl fnsf))]) hC hK hl hP hD hS hA (m_dealt2 l G h0 x3 nw nk mhasKept nt mtaped nr mrowMany mroundOf mroundFrom mouts nm mfromHour mtoHour ns mfrom mto msort misFault mdeep mcoded mlines nl nc nF np ntr nb mbestCost nso nsi nit nsh nsf nss nrc 0 1 (nI jno) (fnw (32 + 6 * jno + 0)) (fnw (32 + 6 * jno + 2)) 0 fnrc (by omega) (by omega)) si_X12_372 [0, 4] [1, 2, 3] rfl rfl (by decide) rfl (by decide) (by decide) rfl rfl rfl rfl rfl (Nat.le_of_ble_eq_true rfl) ⟨Nat.le_of_ble_eq_true rfl, Nat.le_of_ble_eq_true rfl⟩ ⟨Nat.le_of_ble_eq_true rfl, Nat.le_of_ble_eq_true rfl⟩ dX12_deal_205 (fun r6351 u6352 H locs hr6351 hP hD hS => ?_)
          obtain ⟨jr16353, ip16354, gtrc6355⟩ := u6352
          try dsimp only at hr6351
          have hP : va_P G.1 vwCl [(nw, .inl (G.2.1, 1662, .inl fnw)), (nsh, .inl (G.2.1, 4, .inl fnsh)), (nsf, .inl (G.2.1, 4, .inl fnsf)), (h0, .inr (12, [.ref nw, .ref nk, .int mhasKept, .ref nt, .int mtaped, .ref nr, .int mrowMany, .int mroundOf, .int mroundFrom, .int mouts, .ref nm, .int mfromHour, .int mtoHour, .ref ns, .int mfrom, .int mto, .int msort, .int misFault, .int mdeep, .int mcoded, .int mlines, .ref nl, .ref nc, .ref nF, .ref np, .ref ntr, .ref nb, .int mbestCost, .ref nso, .ref nsi, .ref nit, .ref nsh, .ref nsf, .ref nss, .ref nrc, .int (nI jr16353), .int 1, .int (nI jno), .int (fnw (32 + 6 * jno + 0)), .int (fnw (32 + 6 * jno + 2)), .int ip16354])), (nrc, .inl (G.2.1, 30, .inl gtrc6355))] H := hP
          have hD : va_D A [(nw, .inl (G.2.1, 1662, .inl fnw)), (nsh, .inl (G.2.1, 4, .inl fnsh)), (nsf, .inl (G.2.1, 4, .inl fnsf)), (h0, .inr (12, [.ref nw, .ref nk, .int mhasKept, .ref nt, .int mtaped, .ref nr, .int mrowMany, .int mroundOf, .int mroundFrom, .int mouts, .ref nm, .int mfromHour, .int mtoHour, .ref ns, .int mfrom, .int mto, .int msort, .int misFault, .int mdeep, .int mcoded, .int mlines, .ref nl, .ref nc, .ref nF, .ref np, .ref ntr, .ref nb, .int mbestCost, .ref nso, .ref nsi, .ref nit, .ref nsh, .ref nsf, .ref nss, .ref nrc, .int (nI jr16353), .int 1, .int (nI jno), .int (fnw (32 + 6 * jno + 0)), .int (fnw (32 + 6 * jno + 2)), .int ip16354])), (nrc, .inl (G.2.1, 30, .inl gtrc6355))] := hD
          obtain ⟨hr6351, w6356⟩ := hr6351
          refine lv_istore (lv' := [(7, .int r6351), (6, .int 0), (5, .int 1), (4, .int 1), (0, .ref h0), (1, .int (nI jt)), (2, .int 2), (3, .int x3)]) hx hb dX12_deal_208 hl (by decide) rfl (fun ls hl => ?_)
          refine lv_aload_n hx hb dX12_deal_210 rfl (lv_at hl 4 rfl) ?_
          refine gf_X12_380 hC rfl hK hP 3 rfl rfl dX12_deal_211 ?_
          refine lv_if_eq (tgt := 222) hx hb dX12_deal_214 (by decide) (fun c_214_6357 => ?_) (fun c_214_6357 => ?_)
          · refine lv_iload hx hb dX12_deal_222 (lv_at hl 0 rfl) ?_
            exact RI (v := r6351) hC hP hD hS [3, 0, 1, 2, 4] (jr16353, 1, nI jno, fnw (32 + 6 * jno + 0), fnw (32 + 6 * jno + 2), ip16354, gtrc6355) rfl rfl (by decide) (⟨trivial, by omega⟩) rfl dX12_deal_224
          · refine lv_bipush (v := (-15)) hx hb dX12_deal_217 (by decide) ?_
            refine lv_goto (tgt := 224) hx hb dX12_deal_219 (by decide) ?_
            exact RI (v := (-15)) hC hP hD hS [3, 0, 1, 2, 4] (jr16353, 1, nI jno, fnw (32 + 6 * jno + 0), fnw (32 + 6 * jno + 2), ip16354, gtrc6355) rfl rfl (by decide) (⟨trivial, by omega⟩) rfl dX12_deal_224
        · refine lv_aload_n hx hb dX12_deal_202 rfl (lv_at hl 3 rfl) ?_
          refine lv_iload_n hx hb dX12_deal_203 rfl (lv_at hl 5 rfl) ?_
          refine lv_iload_n hx hb dX12_deal_204 rfl (lv_at hl 6 rfl) ?_
          refine iV (wr := [(nw, .inl (G.2.1, 1662, .inl fnw)), (nsh, .inl (G.2.1, 4, .inl fnsh)), (nsf, .inl (G.2.1, 4, .inl fnsf))]) hC hK hl hP hD hS hA (m_dealt3 l G h0 x3 nw nk mhasKept nt mtaped nr mrowMany mroundOf mroundFrom mouts nm mfromHour mtoHour ns mfrom mto msort misFault mdeep mcoded mlines nl nc nF np ntr nb mbestCost nso nsi nit nsh nsf nss nrc 0 1 (nI jno) (fnw (32 + 6 * jno + 0)) (fnw (32 + 6 * jno + 2)) 0 fnrc (by omega) (by omega)) si_X12_372 [0, 4] [1, 2, 3] rfl rfl (by decide) rfl (by decide) (by decide) rfl rfl rfl rfl rfl (Nat.le_of_ble_eq_true rfl) ⟨Nat.le_of_ble_eq_true rfl, Nat.le_of_ble_eq_true rfl⟩ ⟨Nat.le_of_ble_eq_true rfl, Nat.le_of_ble_eq_true rfl⟩ dX12_deal_205 (fun r6358 u6359 H locs hr6358 hP hD hS => ?_)
          obtain ⟨jr16360, ip16361, gtrc6362⟩ := u6359
          try dsimp only at hr6358
          have hP : va_P G.1 vwCl [(nw, .inl (G.2.1, 1662, .inl fnw)), (nsh, .inl (G.2.1, 4, .inl fnsh)), (nsf, .inl (G.2.1, 4, .inl fnsf)), (h0, .inr (12, [.ref nw, .ref nk, .int mhasKept, .ref nt, .int mtaped, .ref nr, .int mrowMany, .int mroundOf, .int mroundFrom, .int mouts, .ref nm, .int mfromHour, .int mtoHour, .ref ns, .int mfrom, .int mto, .int msort, .int misFault, .int mdeep, .int mcoded, .int mlines, .ref nl, .ref nc, .ref nF, .ref np, .ref ntr, .ref nb, .int mbestCost, .ref nso, .ref nsi, .ref nit, .ref nsh, .ref nsf, .ref nss, .ref nrc, .int (nI jr16360), .int 1, .int (nI jno), .int (fnw (32 + 6 * jno + 0)), .int (fnw (32 + 6 * jno + 2)), .int ip16361])), (nrc, .inl (G.2.1, 30, .inl gtrc6362))] H := hP
          have hD : va_D A [(nw, .inl (G.2.1, 1662, .inl fnw)), (nsh, .inl (G.2.1, 4, .inl fnsh)), (nsf, .inl (G.2.1, 4, .inl fnsf)), (h0, .inr (12, [.ref nw, .ref nk, .int mhasKept, .ref nt, .int mtaped, .ref nr, .int mrowMany, .int mroundOf, .int mroundFrom, .int mouts, .ref nm, .int mfromHour, .int mtoHour, .ref ns, .int mfrom, .int mto, .int msort, .int misFault, .int mdeep, .int mcoded, .int mlines, .ref nl, .ref nc, .ref nF, .ref np, .ref ntr, .ref nb, .int mbestCost, .ref nso, .ref nsi, .ref nit, .ref nsh, .ref nsf, .ref nss, .ref nrc, .int (nI jr16360), .int 1, .int (nI jno), .int (fnw (32 + 6 * jno + 0)), .int (fnw (32 + 6 * jno + 2)), .int ip16361])), (nrc, .inl (G.2.1, 30, .inl gtrc6362))] := hD
          obtain ⟨hr6358, w6363⟩ := hr6358
          refine lv_istore (lv' := [(7, .int r6358), (6, .int 0), (5, .int 1), (4, .int 1), (0, .ref h0), (1, .int (nI jt)), (2, .int 3), (3, .int x3)]) hx hb dX12_deal_208 hl (by decide) rfl (fun ls hl => ?_)
          refine lv_aload_n hx hb dX12_deal_210 rfl (lv_at hl 4 rfl) ?_
          refine gf_X12_380 hC rfl hK hP 3 rfl rfl dX12_deal_211 ?_
          refine lv_if_eq (tgt := 222) hx hb dX12_deal_214 (by decide) (fun c_214_6364 => ?_) (fun c_214_6364 => ?_)
          · refine lv_iload hx hb dX12_deal_222 (lv_at hl 0 rfl) ?_
            exact RI (v := r6358) hC hP hD hS [3, 0, 1, 2, 4] (jr16360, 1, nI jno, fnw (32 + 6 * jno + 0), fnw (32 + 6 * jno + 2), ip16361, gtrc6362) rfl rfl (by decide) (⟨trivial, by omega⟩) rfl dX12_deal_224
          · refine lv_bipush (v := (-15)) hx hb dX12_deal_217 (by decide) ?_
            refine lv_goto (tgt := 224) hx hb dX12_deal_219 (by decide) ?_
            exact RI (v := (-15)) hC hP hD hS [3, 0, 1, 2, 4] (jr16360, 1, nI jno, fnw (32 + 6 * jno + 0), fnw (32 + 6 * jno + 2), ip16361, gtrc6362) rfl rfl (by decide) (⟨trivial, by omega⟩) rfl dX12_deal_224
      · refine lv_istore (lv' := [(4, .int 2), (0, .ref h0), (1, .int (nI jt)), (2, .int x2), (3, .int x3)]) hx hb dX12_deal_28 hl (by decide) rfl (fun ls hl => ?_)
        refine lv_iload hx hb dX12_deal_30 (lv_at hl 0 rfl) ?_
        refine lv_if_ge (tgt := 37) hx hb dX12_deal_32 (by decide) (fun _ => ?_) (fun c9 => absurd (by decide) c9)
        refine lv_aload_n hx hb dX12_deal_37 rfl (lv_at hl 1 rfl) ?_
        refine lv_iload hx hb dX12_deal_38 (lv_at hl 0 rfl) ?_
        refine pf_X12_354 hC rfl hK hP hD hS 0 (ws' := [(h0, .inr (12, [.ref nw, .ref nk, .int mhasKept, .ref nt, .int mtaped, .ref nr, .int mrowMany, .int mroundOf, .int mroundFrom, .int mouts, .ref nm, .int mfromHour, .int mtoHour, .ref ns, .int mfrom, .int mto, .int msort, .int misFault, .int mdeep, .int mcoded, .int mlines, .ref nl, .ref nc, .ref nF, .ref np, .ref ntr, .ref nb, .int mbestCost, .ref nso, .ref nsi, .ref nit, .ref nsh, .ref nsf, .ref nss, .ref nrc, .int 0, .int 2, .int mnumber, .int mwhose, .int msize, .int misParted])), (nw, .inl (G.2.1, 1662, .inl fnw)), (nsh, .inl (G.2.1, 4, .inl fnsh)), (nsf, .inl (G.2.1, 4, .inl fnsf)), (nrc, .inl (G.2.1, 30, .inl fnrc))]) rfl (Nat.le_of_ble_eq_true rfl) rfl rfl rfl dX12_deal_40 (fun H locs hP hD hS => ?_)
        refine lv_aload_n hx hb dX12_deal_43 rfl (lv_at hl 1 rfl) ?_
        refine lv_aload_n hx hb dX12_deal_44 rfl (lv_at hl 1 rfl) ?_
        refine gf_X12_75 hC rfl hK hP 0 rfl rfl dX12_deal_45 ?_
        refine lv_iload_n hx hb dX12_deal_48 rfl (lv_at hl 2 rfl) ?_
        refine ald hC hK hP 3 rfl (vp_in_nI (by omega) (by omega)) (k := jt) (nI_clamp (by omega)) (v := fnsf jt) rfl dX12_deal_49 ?_
        refine lv_topi (fun x6365 ex6365 => ?_)
        obtain ⟨hko9, jno, hjno, ejno⟩ := a6329
        refine eqi (x1 := nI jno) (ex6365.trans ejno) ?_
        refine pf_X12_378 hC rfl hK hP hD hS 0 (ws' := [(h0, .inr (12, [.ref nw, .ref nk, .int mhasKept, .ref nt, .int mtaped, .ref nr, .int mrowMany, .int mroundOf, .int mroundFrom, .int mouts, .ref nm, .int mfromHour, .int mtoHour, .ref ns, .int mfrom, .int mto, .int msort, .int misFault, .int mdeep, .int mcoded, .int mlines, .ref nl, .ref nc, .ref nF, .ref np, .ref ntr, .ref nb, .int mbestCost, .ref nso, .ref nsi, .ref nit, .ref nsh, .ref nsf, .ref nss, .ref nrc, .int 0, .int 2, .int (nI jno), .int mwhose, .int msize, .int misParted])), (nw, .inl (G.2.1, 1662, .inl fnw)), (nsh, .inl (G.2.1, 4, .inl fnsh)), (nsf, .inl (G.2.1, 4, .inl fnsf)), (nrc, .inl (G.2.1, 30, .inl fnrc))]) rfl (Nat.le_of_ble_eq_true rfl) rfl rfl rfl dX12_deal_50 (fun H locs hP hD hS => ?_)
        refine lv_aload_n hx hb dX12_deal_53 rfl (lv_at hl 1 rfl) ?_
        refine gf_X12_72 hC rfl hK hP 0 rfl rfl dX12_deal_54 ?_
        refine lv_iload_n hx hb dX12_deal_57 rfl (lv_at hl 2 rfl) ?_
        refine ald hC hK hP 2 rfl (vp_in_nI (by omega) (by omega)) (k := jt) (nI_clamp (by omega)) (v := fnsh jt) rfl dX12_deal_58 ?_
        refine lv_topi (fun x6366 ex6366 => ?_)
        refine lv_iconst (v := 1) hx hb dX12_deal_59 (by decide) ?_
        refine lv_icmp_ne (tgt := 67) hx hb dX12_deal_60 (by decide) (fun c9 => absurd (ex6366.trans hko9) c9) (fun _ => ?_)
        refine lv_iconst (v := 1) hx hb dX12_deal_63 (by decide) ?_
        refine lv_goto (tgt := 68) hx hb dX12_deal_64 (by decide) ?_
        refine lv_istore (lv' := [(5, .int 1), (4, .int 2), (0, .ref h0), (1, .int (nI jt)), (2, .int x2), (3, .int x3)]) hx hb dX12_deal_68 hl (by decide) rfl (fun ls hl => ?_)
        refine lv_aload_n hx hb dX12_deal_70 rfl (lv_at hl 2 rfl) ?_
        refine gf_X12_72 hC rfl hK hP 0 rfl rfl dX12_deal_71 ?_
        refine lv_iload_n hx hb dX12_deal_74 rfl (lv_at hl 3 rfl) ?_
        refine ald hC hK hP 2 rfl (vp_in_nI (by omega) (by omega)) (k := jt) (nI_clamp (by omega)) (v := fnsh jt) rfl dX12_deal_75 ?_
        refine lv_topi (fun x6367 ex6367 => ?_)
        refine lv_iconst (v := 2) hx hb dX12_deal_76 (by decide) ?_
        refine lv_icmp_ne (tgt := 84) hx hb dX12_deal_77 (by decide) (fun _ => ?_) (fun c9 => absurd c9 (fun h9 => absurd (hko9.symm.trans ((ex6367.symm).trans h9)) (by decide)))
        refine lv_iconst (v := 0) hx hb dX12_deal_84 (by decide) ?_
        refine lv_istore (lv' := [(6, .int 0), (5, .int 1), (4, .int 2), (0, .ref h0), (1, .int (nI jt)), (2, .int x2), (3, .int x3)]) hx hb dX12_deal_85 hl (by decide) rfl (fun ls hl => ?_)
        refine lv_aload_n hx hb dX12_deal_87 rfl (lv_at hl 3 rfl) ?_
        refine lv_iload hx hb dX12_deal_88 (lv_at hl 1 rfl) ?_
        refine lv_if_eq (tgt := 105) hx hb dX12_deal_90 (by decide) (fun c9 => absurd c9 (by decide)) (fun _ => ?_)
        refine lv_aload_n hx hb dX12_deal_93 rfl (lv_at hl 3 rfl) ?_
        refine lv_aload_n hx hb dX12_deal_94 rfl (lv_at hl 3 rfl) ?_
        refine gf_X12_378 hC rfl hK hP 0 rfl rfl dX12_deal_95 ?_
        refine lv_iconst (v := 0) hx hb dX12_deal_98 (by decide) ?_
        refine pV hC hK hl hP hD (m_paper l G h0 jno 0 nw nk mhasKept nt mtaped nr mrowMany mroundOf mroundFrom mouts nm mfromHour mtoHour ns mfrom mto msort misFault mdeep mcoded mlines nl nc nF np ntr nb mbestCost nso nsi nit nsh nsf nss nrc 0 2 (nI jno) mwhose msize misParted fnw (by omega) (by omega)) si_X12_88 [0, 1] rfl rfl (by decide) rfl rfl rfl rfl rfl (Nat.le_of_ble_eq_true rfl) ⟨Nat.le_of_ble_eq_true rfl, Nat.le_of_ble_eq_true rfl⟩ ⟨by first | exact Nat.le_of_ble_eq_true rfl | exact Nat.zero_le _, by first | exact Nat.le_of_ble_eq_true rfl | exact Nat.zero_le _⟩ dX12_deal_99 (fun r6368 hr6368 => ?_)
        obtain rfl := hr6368
        refine lv_goto (tgt := 139) hx hb dX12_deal_102 (by decide) ?_
        refine pf_X12_375 hC rfl hK hP hD hS 0 (ws' := [(h0, .inr (12, [.ref nw, .ref nk, .int mhasKept, .ref nt, .int mtaped, .ref nr, .int mrowMany, .int mroundOf, .int mroundFrom, .int mouts, .ref nm, .int mfromHour, .int mtoHour, .ref ns, .int mfrom, .int mto, .int msort, .int misFault, .int mdeep, .int mcoded, .int mlines, .ref nl, .ref nc, .ref nF, .ref np, .ref ntr, .ref nb, .int mbestCost, .ref nso, .ref nsi, .ref nit, .ref nsh, .ref nsf, .ref nss, .ref nrc, .int 0, .int 2, .int (nI jno), .int (fnw (32 + 6 * jno + 0)), .int msize, .int misParted])), (nw, .inl (G.2.1, 1662, .inl fnw)), (nsh, .inl (G.2.1, 4, .inl fnsh)), (nsf, .inl (G.2.1, 4, .inl fnsf)), (nrc, .inl (G.2.1, 30, .inl fnrc))]) rfl (Nat.le_of_ble_eq_true rfl) rfl rfl rfl dX12_deal_139 (fun H locs hP hD hS => ?_)
        refine lv_aload_n hx hb dX12_deal_142 rfl (lv_at hl 3 rfl) ?_
        refine lv_iload hx hb dX12_deal_143 (lv_at hl 1 rfl) ?_
        refine lv_if_eq (tgt := 160) hx hb dX12_deal_145 (by decide) (fun c9 => absurd c9 (by decide)) (fun _ => ?_)
        refine lv_aload_n hx hb dX12_deal_148 rfl (lv_at hl 3 rfl) ?_
        refine lv_aload_n hx hb dX12_deal_149 rfl (lv_at hl 3 rfl) ?_
        refine gf_X12_378 hC rfl hK hP 0 rfl rfl dX12_deal_150 ?_
        refine lv_iconst (v := 2) hx hb dX12_deal_153 (by decide) ?_
        refine pV hC hK hl hP hD (m_paper l G h0 jno 2 nw nk mhasKept nt mtaped nr mrowMany mroundOf mroundFrom mouts nm mfromHour mtoHour ns mfrom mto msort misFault mdeep mcoded mlines nl nc nF np ntr nb mbestCost nso nsi nit nsh nsf nss nrc 0 2 (nI jno) (fnw (32 + 6 * jno + 0)) msize misParted fnw (by omega) (by omega)) si_X12_88 [0, 1] rfl rfl (by decide) rfl rfl rfl rfl rfl (Nat.le_of_ble_eq_true rfl) ⟨Nat.le_of_ble_eq_true rfl, Nat.le_of_ble_eq_true rfl⟩ ⟨by first | exact Nat.le_of_ble_eq_true rfl | exact Nat.zero_le _, by first | exact Nat.le_of_ble_eq_true rfl | exact Nat.zero_le _⟩ dX12_deal_154 (fun r6370 hr6370 => ?_)
        obtain rfl := hr6370
        refine lv_goto (tgt := 194) hx hb dX12_deal_157 (by decide) ?_
        refine pf_X12_369 hC rfl hK hP hD hS 0 (ws' := [(h0, .inr (12, [.ref nw, .ref nk, .int mhasKept, .ref nt, .int mtaped, .ref nr, .int mrowMany, .int mroundOf, .int mroundFrom, .int mouts, .ref nm, .int mfromHour, .int mtoHour, .ref ns, .int mfrom, .int mto, .int msort, .int misFault, .int mdeep, .int mcoded, .int mlines, .ref nl, .ref nc, .ref nF, .ref np, .ref ntr, .ref nb, .int mbestCost, .ref nso, .ref nsi, .ref nit, .ref nsh, .ref nsf, .ref nss, .ref nrc, .int 0, .int 2, .int (nI jno), .int (fnw (32 + 6 * jno + 0)), .int (fnw (32 + 6 * jno + 2)), .int misParted])), (nw, .inl (G.2.1, 1662, .inl fnw)), (nsh, .inl (G.2.1, 4, .inl fnsh)), (nsf, .inl (G.2.1, 4, .inl fnsf)), (nrc, .inl (G.2.1, 30, .inl fnrc))]) rfl (Nat.le_of_ble_eq_true rfl) rfl rfl rfl dX12_deal_194 (fun H locs hP hD hS => ?_)
        refine lv_aload_n hx hb dX12_deal_197 rfl (lv_at hl 3 rfl) ?_
        refine lv_iconst (v := 0) hx hb dX12_deal_198 (by decide) ?_
        refine pf_X12_380 hC rfl hK hP hD hS 0 (ws' := [(h0, .inr (12, [.ref nw, .ref nk, .int mhasKept, .ref nt, .int mtaped, .ref nr, .int mrowMany, .int mroundOf, .int mroundFrom, .int mouts, .ref nm, .int mfromHour, .int mtoHour, .ref ns, .int mfrom, .int mto, .int msort, .int misFault, .int mdeep, .int mcoded, .int mlines, .ref nl, .ref nc, .ref nF, .ref np, .ref ntr, .ref nb, .int mbestCost, .ref nso, .ref nsi, .ref nit, .ref nsh, .ref nsf, .ref nss, .ref nrc, .int 0, .int 2, .int (nI jno), .int (fnw (32 + 6 * jno + 0)), .int (fnw (32 + 6 * jno + 2)), .int 0])), (nw, .inl (G.2.1, 1662, .inl fnw)), (nsh, .inl (G.2.1, 4, .inl fnsh)), (nsf, .inl (G.2.1, 4, .inl fnsf)), (nrc, .inl (G.2.1, 30, .inl fnrc))]) rfl (Nat.le_of_ble_eq_true rfl) rfl (by decide +kernel) (by decide +kernel) dX12_deal_199 (fun H locs hP hD hS => ?_)
        obtain ⟨jdl, hjdl, rfl⟩ := Wi_nat (N := 3) (by decide) a6327
        rcases (show jdl = 0 ∨ jdl = 1 ∨ jdl = 2 ∨ jdl = 3 by omega) with rfl | rfl | rfl | rfl
        · refine lv_aload_n hx hb dX12_deal_202 rfl (lv_at hl 3 rfl) ?_
          refine lv_iload_n hx hb dX12_deal_203 rfl (lv_at hl 5 rfl) ?_
          refine lv_iload_n hx hb dX12_deal_204 rfl (lv_at hl 6 rfl) ?_
          refine iV (wr := [(nw, .inl (G.2.1, 1662, .inl fnw)), (nsh, .inl (G.2.1, 4, .inl fnsh)), (nsf, .inl (G.2.1, 4, .inl fnsf))]) hC hK hl hP hD hS hA (m_dealt0 l G h0 x3 nw nk mhasKept nt mtaped nr mrowMany mroundOf mroundFrom mouts nm mfromHour mtoHour ns mfrom mto msort misFault mdeep mcoded mlines nl nc nF np ntr nb mbestCost nso nsi nit nsh nsf nss nrc 0 2 (nI jno) (fnw (32 + 6 * jno + 0)) (fnw (32 + 6 * jno + 2)) 0 fnrc (by omega) (by omega)) si_X12_372 [0, 4] [1, 2, 3] rfl rfl (by decide) rfl (by decide) (by decide) rfl rfl rfl rfl rfl (Nat.le_of_ble_eq_true rfl) ⟨Nat.le_of_ble_eq_true rfl, Nat.le_of_ble_eq_true rfl⟩ ⟨Nat.le_of_ble_eq_true rfl, Nat.le_of_ble_eq_true rfl⟩ dX12_deal_205 (fun r6372 u6373 H locs hr6372 hP hD hS => ?_)
          obtain ⟨jr16374, ip16375, gtrc6376⟩ := u6373
          try dsimp only at hr6372
          have hP : va_P G.1 vwCl [(nw, .inl (G.2.1, 1662, .inl fnw)), (nsh, .inl (G.2.1, 4, .inl fnsh)), (nsf, .inl (G.2.1, 4, .inl fnsf)), (h0, .inr (12, [.ref nw, .ref nk, .int mhasKept, .ref nt, .int mtaped, .ref nr, .int mrowMany, .int mroundOf, .int mroundFrom, .int mouts, .ref nm, .int mfromHour, .int mtoHour, .ref ns, .int mfrom, .int mto, .int msort, .int misFault, .int mdeep, .int mcoded, .int mlines, .ref nl, .ref nc, .ref nF, .ref np, .ref ntr, .ref nb, .int mbestCost, .ref nso, .ref nsi, .ref nit, .ref nsh, .ref nsf, .ref nss, .ref nrc, .int (nI jr16374), .int 2, .int (nI jno), .int (fnw (32 + 6 * jno + 0)), .int (fnw (32 + 6 * jno + 2)), .int ip16375])), (nrc, .inl (G.2.1, 30, .inl gtrc6376))] H := hP
          have hD : va_D A [(nw, .inl (G.2.1, 1662, .inl fnw)), (nsh, .inl (G.2.1, 4, .inl fnsh)), (nsf, .inl (G.2.1, 4, .inl fnsf)), (h0, .inr (12, [.ref nw, .ref nk, .int mhasKept, .ref nt, .int mtaped, .ref nr, .int mrowMany, .int mroundOf, .int mroundFrom, .int mouts, .ref nm, .int mfromHour, .int mtoHour, .ref ns, .int mfrom, .int mto, .int msort, .int misFault, .int mdeep, .int mcoded, .int mlines, .ref nl, .ref nc, .ref nF, .ref np, .ref ntr, .ref nb, .int mbestCost, .ref nso, .ref nsi, .ref nit, .ref nsh, .ref nsf, .ref nss, .ref nrc, .int (nI jr16374), .int 2, .int (nI jno), .int (fnw (32 + 6 * jno + 0)), .int (fnw (32 + 6 * jno + 2)), .int ip16375])), (nrc, .inl (G.2.1, 30, .inl gtrc6376))] := hD
          obtain ⟨hr6372, w6377⟩ := hr6372
          refine lv_istore (lv' := [(7, .int r6372), (6, .int 0), (5, .int 1), (4, .int 2), (0, .ref h0), (1, .int (nI jt)), (2, .int 0), (3, .int x3)]) hx hb dX12_deal_208 hl (by decide) rfl (fun ls hl => ?_)
          refine lv_aload_n hx hb dX12_deal_210 rfl (lv_at hl 4 rfl) ?_
          refine gf_X12_380 hC rfl hK hP 3 rfl rfl dX12_deal_211 ?_
          refine lv_if_eq (tgt := 222) hx hb dX12_deal_214 (by decide) (fun c_214_6378 => ?_) (fun c_214_6378 => ?_)
          · refine lv_iload hx hb dX12_deal_222 (lv_at hl 0 rfl) ?_
            exact RI (v := r6372) hC hP hD hS [3, 0, 1, 2, 4] (jr16374, 2, nI jno, fnw (32 + 6 * jno + 0), fnw (32 + 6 * jno + 2), ip16375, gtrc6376) rfl rfl (by decide) (⟨trivial, by omega⟩) rfl dX12_deal_224
          · refine lv_bipush (v := (-15)) hx hb dX12_deal_217 (by decide) ?_
            refine lv_goto (tgt := 224) hx hb dX12_deal_219 (by decide) ?_
            exact RI (v := (-15)) hC hP hD hS [3, 0, 1, 2, 4] (jr16374, 2, nI jno, fnw (32 + 6 * jno + 0), fnw (32 + 6 * jno + 2), ip16375, gtrc6376) rfl rfl (by decide) (⟨trivial, by omega⟩) rfl dX12_deal_224
        · refine lv_aload_n hx hb dX12_deal_202 rfl (lv_at hl 3 rfl) ?_
          refine lv_iload_n hx hb dX12_deal_203 rfl (lv_at hl 5 rfl) ?_
          refine lv_iload_n hx hb dX12_deal_204 rfl (lv_at hl 6 rfl) ?_
          refine iV (wr := [(nw, .inl (G.2.1, 1662, .inl fnw)), (nsh, .inl (G.2.1, 4, .inl fnsh)), (nsf, .inl (G.2.1, 4, .inl fnsf))]) hC hK hl hP hD hS hA (m_dealt1 l G h0 x3 nw nk mhasKept nt mtaped nr mrowMany mroundOf mroundFrom mouts nm mfromHour mtoHour ns mfrom mto msort misFault mdeep mcoded mlines nl nc nF np ntr nb mbestCost nso nsi nit nsh nsf nss nrc 0 2 (nI jno) (fnw (32 + 6 * jno + 0)) (fnw (32 + 6 * jno + 2)) 0 fnrc (by omega) (by omega)) si_X12_372 [0, 4] [1, 2, 3] rfl rfl (by decide) rfl (by decide) (by decide) rfl rfl rfl rfl rfl (Nat.le_of_ble_eq_true rfl) ⟨Nat.le_of_ble_eq_true rfl, Nat.le_of_ble_eq_true rfl⟩ ⟨Nat.le_of_ble_eq_true rfl, Nat.le_of_ble_eq_true rfl⟩ dX12_deal_205 (fun r6379 u6380 H locs hr6379 hP hD hS => ?_)
          obtain ⟨jr16381, ip16382, gtrc6383⟩ := u6380
          try dsimp only at hr6379
          have hP : va_P G.1 vwCl [(nw, .inl (G.2.1, 1662, .inl fnw)), (nsh, .inl (G.2.1, 4, .inl fnsh)), (nsf, .inl (G.2.1, 4, .inl fnsf)), (h0, .inr (12, [.ref nw, .ref nk, .int mhasKept, .ref nt, .int mtaped, .ref nr, .int mrowMany, .int mroundOf, .int mroundFrom, .int mouts, .ref nm, .int mfromHour, .int mtoHour, .ref ns, .int mfrom, .int mto, .int msort, .int misFault, .int mdeep, .int mcoded, .int mlines, .ref nl, .ref nc, .ref nF, .ref np, .ref ntr, .ref nb, .int mbestCost, .ref nso, .ref nsi, .ref nit, .ref nsh, .ref nsf, .ref nss, .ref nrc, .int (nI jr16381), .int 2, .int (nI jno), .int (fnw (32 + 6 * jno + 0)), .int (fnw (32 + 6 * jno + 2)), .int ip16382])), (nrc, .inl (G.2.1, 30, .inl gtrc6383))] H := hP
          have hD : va_D A [(nw, .inl (G.2.1, 1662, .inl fnw)), (nsh, .inl (G.2.1, 4, .inl fnsh)), (nsf, .inl (G.2.1, 4, .inl fnsf)), (h0, .inr (12, [.ref nw, .ref nk, .int mhasKept, .ref nt, .int mtaped, .ref nr, .int mrowMany, .int mroundOf, .int mroundFrom, .int mouts, .ref nm, .int mfromHour, .int mtoHour, .ref ns, .int mfrom, .int mto, .int msort, .int misFault, .int mdeep, .int mcoded, .int mlines, .ref nl, .ref nc, .ref nF, .ref np, .ref ntr, .ref nb, .int mbestCost, .ref nso, .ref nsi, .ref nit, .ref nsh, .ref nsf, .ref nss, .ref nrc, .int (nI jr16381), .int 2, .int (nI jno), .int (fnw (32 + 6 * jno + 0)), .int (fnw (32 + 6 * jno + 2)), .int ip16382])), (nrc, .inl (G.2.1, 30, .inl gtrc6383))] := hD
          obtain ⟨hr6379, w6384⟩ := hr6379
          refine lv_istore (lv' := [(7, .int r6379), (6, .int 0), (5, .int 1), (4, .int 2), (0, .ref h0), (1, .int (nI jt)), (2, .int 1), (3, .int x3)]) hx hb dX12_deal_208 hl (by decide) rfl (fun ls hl => ?_)
          refine lv_aload_n hx hb dX12_deal_210 rfl (lv_at hl 4 rfl) ?_
          refine gf_X12_380 hC rfl hK hP 3 rfl rfl dX12_deal_211 ?_
          refine lv_if_eq (tgt := 222) hx hb dX12_deal_214 (by decide) (fun c_214_6385 => ?_) (fun c_214_6385 => ?_)
          · refine lv_iload hx hb dX12_deal_222 (lv_at hl 0 rfl) ?_
            exact RI (v := r6379) hC hP hD hS [3, 0, 1, 2, 4] (jr16381, 2, nI jno, fnw (32 + 6 * jno + 0), fnw (32 + 6 * jno + 2), ip16382, gtrc6383) rfl rfl (by decide) (⟨trivial, by omega⟩) rfl dX12_deal_224
          · refine lv_bipush (v := (-15)) hx hb dX12_deal_217 (by decide) ?_
            refine lv_goto (tgt := 224) hx hb dX12_deal_219 (by decide) ?_
            exact RI (v := (-15)) hC hP hD hS [3, 0, 1, 2, 4] (jr16381, 2, nI jno, fnw (32 + 6 * jno + 0), fnw (32 + 6 * jno + 2), ip16382, gtrc6383) rfl rfl (by decide) (⟨trivial, by omega⟩) rfl dX12_deal_224
        · refine lv_aload_n hx hb dX12_deal_202 rfl (lv_at hl 3 rfl) ?_
          refine lv_iload_n hx hb dX12_deal_203 rfl (lv_at hl 5 rfl) ?_
          refine lv_iload_n hx hb dX12_deal_204 rfl (lv_at hl 6 rfl) ?_
          refine iV (wr := [(nw, .inl (G.2.1, 1662, .inl fnw)), (nsh, .inl (G.2.1, 4, .inl fnsh)), (nsf, .inl (G.2.1, 4, .inl fnsf))]) hC hK hl hP hD hS hA (m_dealt2 l G h0 x3 nw nk mhasKept nt mtaped nr mrowMany mroundOf mroundFrom mouts nm mfromHour mtoHour ns mfrom mto msort misFault mdeep mcoded mlines nl nc nF np ntr nb mbestCost nso nsi nit nsh nsf nss nrc 0 2 (nI jno) (fnw (32 + 6 * jno + 0)) (fnw (32 + 6 * jno + 2)) 0 fnrc (by omega) (by omega)) si_X12_372 [0, 4] [1, 2, 3] rfl rfl (by decide) rfl (by decide) (by decide) rfl rfl rfl rfl rfl (Nat.le_of_ble_eq_true rfl) ⟨Nat.le_of_ble_eq_true rfl, Nat.le_of_ble_eq_true rfl⟩ ⟨Nat.le_of_ble_eq_true rfl, Nat.le_of_ble_eq_true rfl⟩ dX12_deal_205 (fun r6386 u6387 H locs hr6386 hP hD hS => ?_)
          obtain ⟨jr16388, ip16389, gtrc6390⟩ := u6387
          try dsimp only at hr6386
          have hP : va_P G.1 vwCl [(nw, .inl (G.2.1, 1662, .inl fnw)), (nsh, .inl (G.2.1, 4, .inl fnsh)), (nsf, .inl (G.2.1, 4, .inl fnsf)), (h0, .inr (12, [.ref nw, .ref nk, .int mhasKept, .ref nt, .int mtaped, .ref nr, .int mrowMany, .int mroundOf, .int mroundFrom, .int mouts, .ref nm, .int mfromHour, .int mtoHour, .ref ns, .int mfrom, .int mto, .int msort, .int misFault, .int mdeep, .int mcoded, .int mlines, .ref nl, .ref nc, .ref nF, .ref np, .ref ntr, .ref nb, .int mbestCost, .ref nso, .ref nsi, .ref nit, .ref nsh, .ref nsf, .ref nss, .ref nrc, .int (nI jr16388), .int 2, .int (nI jno), .int (fnw (32 + 6 * jno + 0)), .int (fnw (32 + 6 * jno + 2)), .int ip16389])), (nrc, .inl (G.2.1, 30, .inl gtrc6390))] H := hP
          have hD : va_D A [(nw, .inl (G.2.1, 1662, .inl fnw)), (nsh, .inl (G.2.1, 4, .inl fnsh)), (nsf, .inl (G.2.1, 4, .inl fnsf)), (h0, .inr (12, [.ref nw, .ref nk, .int mhasKept, .ref nt, .int mtaped, .ref nr, .int mrowMany, .int mroundOf, .int mroundFrom, .int mouts, .ref nm, .int mfromHour, .int mtoHour, .ref ns, .int mfrom, .int mto, .int msort, .int misFault, .int mdeep, .int mcoded, .int mlines, .ref nl, .ref nc, .ref nF, .ref np, .ref ntr, .ref nb, .int mbestCost, .ref nso, .ref nsi, .ref nit, .ref nsh, .ref nsf, .ref nss, .ref nrc, .int (nI jr16388), .int 2, .int (nI jno), .int (fnw (32 + 6 * jno + 0)), .int (fnw (32 + 6 * jno + 2)), .int ip16389])), (nrc, .inl (G.2.1, 30, .inl gtrc6390))] := hD
          obtain ⟨hr6386, w6391⟩ := hr6386
          refine lv_istore (lv' := [(7, .int r6386), (6, .int 0), (5, .int 1), (4, .int 2), (0, .ref h0), (1, .int (nI jt)), (2, .int 2), (3, .int x3)]) hx hb dX12_deal_208 hl (by decide) rfl (fun ls hl => ?_)
          refine lv_aload_n hx hb dX12_deal_210 rfl (lv_at hl 4 rfl) ?_
          refine gf_X12_380 hC rfl hK hP 3 rfl rfl dX12_deal_211 ?_
          refine lv_if_eq (tgt := 222) hx hb dX12_deal_214 (by decide) (fun c_214_6392 => ?_) (fun c_214_6392 => ?_)
          · refine lv_iload hx hb dX12_deal_222 (lv_at hl 0 rfl) ?_
            exact RI (v := r6386) hC hP hD hS [3, 0, 1, 2, 4] (jr16388, 2, nI jno, fnw (32 + 6 * jno + 0), fnw (32 + 6 * jno + 2), ip16389, gtrc6390) rfl rfl (by decide) (⟨trivial, by omega⟩) rfl dX12_deal_224
          · refine lv_bipush (v := (-15)) hx hb dX12_deal_217 (by decide) ?_
            refine lv_goto (tgt := 224) hx hb dX12_deal_219 (by decide) ?_
            exact RI (v := (-15)) hC hP hD hS [3, 0, 1, 2, 4] (jr16388, 2, nI jno, fnw (32 + 6 * jno + 0), fnw (32 + 6 * jno + 2), ip16389, gtrc6390) rfl rfl (by decide) (⟨trivial, by omega⟩) rfl dX12_deal_224
        · refine lv_aload_n hx hb dX12_deal_202 rfl (lv_at hl 3 rfl) ?_
          refine lv_iload_n hx hb dX12_deal_203 rfl (lv_at hl 5 rfl) ?_
          refine lv_iload_n hx hb dX12_deal_204 rfl (lv_at hl 6 rfl) ?_
          refine iV (wr := [(nw, .inl (G.2.1, 1662, .inl fnw)), (nsh, .inl (G.2.1, 4, .inl fnsh)), (nsf, .inl (G.2.1, 4, .inl fnsf))]) hC hK hl hP hD hS hA (m_dealt3 l G h0 x3 nw nk mhasKept nt mtaped nr mrowMany mroundOf mroundFrom mouts nm mfromHour mtoHour ns mfrom mto msort misFault mdeep mcoded mlines nl nc nF np ntr nb mbestCost nso nsi nit nsh nsf nss nrc 0 2 (nI jno) (fnw (32 + 6 * jno + 0)) (fnw (32 + 6 * jno + 2)) 0 fnrc (by omega) (by omega)) si_X12_372 [0, 4] [1, 2, 3] rfl rfl (by decide) rfl (by decide) (by decide) rfl rfl rfl rfl rfl (Nat.le_of_ble_eq_true rfl) ⟨Nat.le_of_ble_eq_true rfl, Nat.le_of_ble_eq_true rfl⟩ ⟨Nat.le_of_ble_eq_true rfl, Nat.le_of_ble_eq_true rfl⟩ dX12_deal_205 (fun r6393 u6394 H locs hr6393 hP hD hS => ?_)
          obtain ⟨jr16395, ip16396, gtrc6397⟩ := u6394
          try dsimp only at hr6393
          have hP : va_P G.1 vwCl [(nw, .inl (G.2.1, 1662, .inl fnw)), (nsh, .inl (G.2.1, 4, .inl fnsh)), (nsf, .inl (G.2.1, 4, .inl fnsf)), (h0, .inr (12, [.ref nw, .ref nk, .int mhasKept, .ref nt, .int mtaped, .ref nr, .int mrowMany, .int mroundOf, .int mroundFrom, .int mouts, .ref nm, .int mfromHour, .int mtoHour, .ref ns, .int mfrom, .int mto, .int msort, .int misFault, .int mdeep, .int mcoded, .int mlines, .ref nl, .ref nc, .ref nF, .ref np, .ref ntr, .ref nb, .int mbestCost, .ref nso, .ref nsi, .ref nit, .ref nsh, .ref nsf, .ref nss, .ref nrc, .int (nI jr16395), .int 2, .int (nI jno), .int (fnw (32 + 6 * jno + 0)), .int (fnw (32 + 6 * jno + 2)), .int ip16396])), (nrc, .inl (G.2.1, 30, .inl gtrc6397))] H := hP
          have hD : va_D A [(nw, .inl (G.2.1, 1662, .inl fnw)), (nsh, .inl (G.2.1, 4, .inl fnsh)), (nsf, .inl (G.2.1, 4, .inl fnsf)), (h0, .inr (12, [.ref nw, .ref nk, .int mhasKept, .ref nt, .int mtaped, .ref nr, .int mrowMany, .int mroundOf, .int mroundFrom, .int mouts, .ref nm, .int mfromHour, .int mtoHour, .ref ns, .int mfrom, .int mto, .int msort, .int misFault, .int mdeep, .int mcoded, .int mlines, .ref nl, .ref nc, .ref nF, .ref np, .ref ntr, .ref nb, .int mbestCost, .ref nso, .ref nsi, .ref nit, .ref nsh, .ref nsf, .ref nss, .ref nrc, .int (nI jr16395), .int 2, .int (nI jno), .int (fnw (32 + 6 * jno + 0)), .int (fnw (32 + 6 * jno + 2)), .int ip16396])), (nrc, .inl (G.2.1, 30, .inl gtrc6397))] := hD
          obtain ⟨hr6393, w6398⟩ := hr6393
          refine lv_istore (lv' := [(7, .int r6393), (6, .int 0), (5, .int 1), (4, .int 2), (0, .ref h0), (1, .int (nI jt)), (2, .int 3), (3, .int x3)]) hx hb dX12_deal_208 hl (by decide) rfl (fun ls hl => ?_)
          refine lv_aload_n hx hb dX12_deal_210 rfl (lv_at hl 4 rfl) ?_
          refine gf_X12_380 hC rfl hK hP 3 rfl rfl dX12_deal_211 ?_
          refine lv_if_eq (tgt := 222) hx hb dX12_deal_214 (by decide) (fun c_214_6399 => ?_) (fun c_214_6399 => ?_)
          · refine lv_iload hx hb dX12_deal_222 (lv_at hl 0 rfl) ?_
            exact RI (v := r6393) hC hP hD hS [3, 0, 1, 2, 4] (jr16395, 2, nI jno, fnw (32 + 6 * jno + 0), fnw (32 + 6 * jno + 2), ip16396, gtrc6397) rfl rfl (by decide) (⟨trivial, by omega⟩) rfl dX12_deal_224
          · refine lv_bipush (v := (-15)) hx hb dX12_deal_217 (by decide) ?_
            refine lv_goto (tgt := 224) hx hb dX12_deal_219 (by decide) ?_
            exact RI (v := (-15)) hC hP hD hS [3, 0, 1, 2, 4] (jr16395, 2, nI jno, fnw (32 + 6 * jno + 0), fnw (32 + 6 * jno + 2), ip16396, gtrc6397) rfl rfl (by decide) (⟨trivial, by omega⟩) rfl dX12_deal_224
      · refine lv_istore (lv' := [(4, .int 3), (0, .ref h0), (1, .int (nI jt)), (2, .int x2), (3, .int x3)]) hx hb dX12_deal_28 hl (by decide) rfl (fun ls hl => ?_)
        refine lv_iload hx hb dX12_deal_30 (lv_at hl 0 rfl) ?_
        refine lv_if_ge (tgt := 37) hx hb dX12_deal_32 (by decide) (fun _ => ?_) (fun c9 => absurd (by decide) c9)
        refine lv_aload_n hx hb dX12_deal_37 rfl (lv_at hl 1 rfl) ?_
        refine lv_iload hx hb dX12_deal_38 (lv_at hl 0 rfl) ?_
        refine pf_X12_354 hC rfl hK hP hD hS 0 (ws' := [(h0, .inr (12, [.ref nw, .ref nk, .int mhasKept, .ref nt, .int mtaped, .ref nr, .int mrowMany, .int mroundOf, .int mroundFrom, .int mouts, .ref nm, .int mfromHour, .int mtoHour, .ref ns, .int mfrom, .int mto, .int msort, .int misFault, .int mdeep, .int mcoded, .int mlines, .ref nl, .ref nc, .ref nF, .ref np, .ref ntr, .ref nb, .int mbestCost, .ref nso, .ref nsi, .ref nit, .ref nsh, .ref nsf, .ref nss, .ref nrc, .int 0, .int 3, .int mnumber, .int mwhose, .int msize, .int misParted])), (nw, .inl (G.2.1, 1662, .inl fnw)), (nsh, .inl (G.2.1, 4, .inl fnsh)), (nsf, .inl (G.2.1, 4, .inl fnsf)), (nrc, .inl (G.2.1, 30, .inl fnrc))]) rfl (Nat.le_of_ble_eq_true rfl) rfl rfl rfl dX12_deal_40 (fun H locs hP hD hS => ?_)
        refine lv_aload_n hx hb dX12_deal_43 rfl (lv_at hl 1 rfl) ?_
        refine lv_aload_n hx hb dX12_deal_44 rfl (lv_at hl 1 rfl) ?_
        refine gf_X12_75 hC rfl hK hP 0 rfl rfl dX12_deal_45 ?_
        refine lv_iload_n hx hb dX12_deal_48 rfl (lv_at hl 2 rfl) ?_
        refine ald hC hK hP 3 rfl (vp_in_nI (by omega) (by omega)) (k := jt) (nI_clamp (by omega)) (v := fnsf jt) rfl dX12_deal_49 ?_
        refine lv_topi (fun x6400 ex6400 => ?_)
        obtain ⟨hko9, jno, hjno, ejno⟩ := a6329
        refine eqi (x1 := nI jno) (ex6400.trans ejno) ?_
        refine pf_X12_378 hC rfl hK hP hD hS 0 (ws' := [(h0, .inr (12, [.ref nw, .ref nk, .int mhasKept, .ref nt, .int mtaped, .ref nr, .int mrowMany, .int mroundOf, .int mroundFrom, .int mouts, .ref nm, .int mfromHour, .int mtoHour, .ref ns, .int mfrom, .int mto, .int msort, .int misFault, .int mdeep, .int mcoded, .int mlines, .ref nl, .ref nc, .ref nF, .ref np, .ref ntr, .ref nb, .int mbestCost, .ref nso, .ref nsi, .ref nit, .ref nsh, .ref nsf, .ref nss, .ref nrc, .int 0, .int 3, .int (nI jno), .int mwhose, .int msize, .int misParted])), (nw, .inl (G.2.1, 1662, .inl fnw)), (nsh, .inl (G.2.1, 4, .inl fnsh)), (nsf, .inl (G.2.1, 4, .inl fnsf)), (nrc, .inl (G.2.1, 30, .inl fnrc))]) rfl (Nat.le_of_ble_eq_true rfl) rfl rfl rfl dX12_deal_50 (fun H locs hP hD hS => ?_)
        refine lv_aload_n hx hb dX12_deal_53 rfl (lv_at hl 1 rfl) ?_
        refine gf_X12_72 hC rfl hK hP 0 rfl rfl dX12_deal_54 ?_
        refine lv_iload_n hx hb dX12_deal_57 rfl (lv_at hl 2 rfl) ?_
        refine ald hC hK hP 2 rfl (vp_in_nI (by omega) (by omega)) (k := jt) (nI_clamp (by omega)) (v := fnsh jt) rfl dX12_deal_58 ?_
        refine lv_topi (fun x6401 ex6401 => ?_)
        refine lv_iconst (v := 1) hx hb dX12_deal_59 (by decide) ?_
        refine lv_icmp_ne (tgt := 67) hx hb dX12_deal_60 (by decide) (fun c9 => absurd (ex6401.trans hko9) c9) (fun _ => ?_)
        refine lv_iconst (v := 1) hx hb dX12_deal_63 (by decide) ?_
        refine lv_goto (tgt := 68) hx hb dX12_deal_64 (by decide) ?_
        refine lv_istore (lv' := [(5, .int 1), (4, .int 3), (0, .ref h0), (1, .int (nI jt)), (2, .int x2), (3, .int x3)]) hx hb dX12_deal_68 hl (by decide) rfl (fun ls hl => ?_)
        refine lv_aload_n hx hb dX12_deal_70 rfl (lv_at hl 2 rfl) ?_
        refine gf_X12_72 hC rfl hK hP 0 rfl rfl dX12_deal_71 ?_
        refine lv_iload_n hx hb dX12_deal_74 rfl (lv_at hl 3 rfl) ?_
        refine ald hC hK hP 2 rfl (vp_in_nI (by omega) (by omega)) (k := jt) (nI_clamp (by omega)) (v := fnsh jt) rfl dX12_deal_75 ?_
        refine lv_topi (fun x6402 ex6402 => ?_)
        refine lv_iconst (v := 2) hx hb dX12_deal_76 (by decide) ?_
        refine lv_icmp_ne (tgt := 84) hx hb dX12_deal_77 (by decide) (fun _ => ?_) (fun c9 => absurd c9 (fun h9 => absurd (hko9.symm.trans ((ex6402.symm).trans h9)) (by decide)))
        refine lv_iconst (v := 0) hx hb dX12_deal_84 (by decide) ?_
        refine lv_istore (lv' := [(6, .int 0), (5, .int 1), (4, .int 3), (0, .ref h0), (1, .int (nI jt)), (2, .int x2), (3, .int x3)]) hx hb dX12_deal_85 hl (by decide) rfl (fun ls hl => ?_)
        refine lv_aload_n hx hb dX12_deal_87 rfl (lv_at hl 3 rfl) ?_
        refine lv_iload hx hb dX12_deal_88 (lv_at hl 1 rfl) ?_
        refine lv_if_eq (tgt := 105) hx hb dX12_deal_90 (by decide) (fun c9 => absurd c9 (by decide)) (fun _ => ?_)
        refine lv_aload_n hx hb dX12_deal_93 rfl (lv_at hl 3 rfl) ?_
        refine lv_aload_n hx hb dX12_deal_94 rfl (lv_at hl 3 rfl) ?_
        refine gf_X12_378 hC rfl hK hP 0 rfl rfl dX12_deal_95 ?_
        refine lv_iconst (v := 0) hx hb dX12_deal_98 (by decide) ?_
        refine pV hC hK hl hP hD (m_paper l G h0 jno 0 nw nk mhasKept nt mtaped nr mrowMany mroundOf mroundFrom mouts nm mfromHour mtoHour ns mfrom mto msort misFault mdeep mcoded mlines nl nc nF np ntr nb mbestCost nso nsi nit nsh nsf nss nrc 0 3 (nI jno) mwhose msize misParted fnw (by omega) (by omega)) si_X12_88 [0, 1] rfl rfl (by decide) rfl rfl rfl rfl rfl (Nat.le_of_ble_eq_true rfl) ⟨Nat.le_of_ble_eq_true rfl, Nat.le_of_ble_eq_true rfl⟩ ⟨by first | exact Nat.le_of_ble_eq_true rfl | exact Nat.zero_le _, by first | exact Nat.le_of_ble_eq_true rfl | exact Nat.zero_le _⟩ dX12_deal_99 (fun r6403 hr6403 => ?_)
        obtain rfl := hr6403
        refine lv_goto (tgt := 139) hx hb dX12_deal_102 (by decide) ?_
        refine pf_X12_375 hC rfl hK hP hD hS 0 (ws' := [(h0, .inr (12, [.ref nw, .ref nk, .int mhasKept, .ref nt, .int mtaped, .ref nr, .int mrowMany, .int mroundOf, .int mroundFrom, .int mouts, .ref nm, .int mfromHour, .int mtoHour, .ref ns, .int mfrom, .int mto, .int msort, .int misFault, .int mdeep, .int mcoded, .int mlines, .ref nl, .ref nc, .ref nF, .ref np, .ref ntr, .ref nb, .int mbestCost, .ref nso, .ref nsi, .ref nit, .ref nsh, .ref nsf, .ref nss, .ref nrc, .int 0, .int 3, .int (nI jno), .int (fnw (32 + 6 * jno + 0)), .int msize, .int misParted])), (nw, .inl (G.2.1, 1662, .inl fnw)), (nsh, .inl (G.2.1, 4, .inl fnsh)), (nsf, .inl (G.2.1, 4, .inl fnsf)), (nrc, .inl (G.2.1, 30, .inl fnrc))]) rfl (Nat.le_of_ble_eq_true rfl) rfl rfl rfl dX12_deal_139 (fun H locs hP hD hS => ?_)
        refine lv_aload_n hx hb dX12_deal_142 rfl (lv_at hl 3 rfl) ?_
        refine lv_iload hx hb dX12_deal_143 (lv_at hl 1 rfl) ?_
        refine lv_if_eq (tgt := 160) hx hb dX12_deal_145 (by decide) (fun c9 => absurd c9 (by decide)) (fun _ => ?_)
        refine lv_aload_n hx hb dX12_deal_148 rfl (lv_at hl 3 rfl) ?_
        refine lv_aload_n hx hb dX12_deal_149 rfl (lv_at hl 3 rfl) ?_
        refine gf_X12_378 hC rfl hK hP 0 rfl rfl dX12_deal_150 ?_
        refine lv_iconst (v := 2) hx hb dX12_deal_153 (by decide) ?_
        refine pV hC hK hl hP hD (m_paper l G h0 jno 2 nw nk mhasKept nt mtaped nr mrowMany mroundOf mroundFrom mouts nm mfromHour mtoHour ns mfrom mto msort misFault mdeep mcoded mlines nl nc nF np ntr nb mbestCost nso nsi nit nsh nsf nss nrc 0 3 (nI jno) (fnw (32 + 6 * jno + 0)) msize misParted fnw (by omega) (by omega)) si_X12_88 [0, 1] rfl rfl (by decide) rfl rfl rfl rfl rfl (Nat.le_of_ble_eq_true rfl) ⟨Nat.le_of_ble_eq_true rfl, Nat.le_of_ble_eq_true rfl⟩ ⟨by first | exact Nat.le_of_ble_eq_true rfl | exact Nat.zero_le _, by first | exact Nat.le_of_ble_eq_true rfl | exact Nat.zero_le _⟩ dX12_deal_154 (fun r6405 hr6405 => ?_)
        obtain rfl := hr6405
        refine lv_goto (tgt := 194) hx hb dX12_deal_157 (by decide) ?_
        refine pf_X12_369 hC rfl hK hP hD hS 0 (ws' := [(h0, .inr (12, [.ref nw, .ref nk, .int mhasKept, .ref nt, .int mtaped, .ref nr, .int mrowMany, .int mroundOf, .int mroundFrom, .int mouts, .ref nm, .int mfromHour, .int mtoHour, .ref ns, .int mfrom, .int mto, .int msort, .int misFault, .int mdeep, .int mcoded, .int mlines, .ref nl, .ref nc, .ref nF, .ref np, .ref ntr, .ref nb, .int mbestCost, .ref nso, .ref nsi, .ref nit, .ref nsh, .ref nsf, .ref nss, .ref nrc, .int 0, .int 3, .int (nI jno), .int (fnw (32 + 6 * jno + 0)), .int (fnw (32 + 6 * jno + 2)), .int misParted])), (nw, .inl (G.2.1, 1662, .inl fnw)), (nsh, .inl (G.2.1, 4, .inl fnsh)), (nsf, .inl (G.2.1, 4, .inl fnsf)), (nrc, .inl (G.2.1, 30, .inl fnrc))]) rfl (Nat.le_of_ble_eq_true rfl) rfl rfl rfl dX12_deal_194 (fun H locs hP hD hS => ?_)
        refine lv_aload_n hx hb dX12_deal_197 rfl (lv_at hl 3 rfl) ?_
        refine lv_iconst (v := 0) hx hb dX12_deal_198 (by decide) ?_
        refine pf_X12_380 hC rfl hK hP hD hS 0 (ws' := [(h0, .inr (12, [.ref nw, .ref nk, .int mhasKept, .ref nt, .int mtaped, .ref nr, .int mrowMany, .int mroundOf, .int mroundFrom, .int mouts, .ref nm, .int mfromHour, .int mtoHour, .ref ns, .int mfrom, .int mto, .int msort, .int misFault, .int mdeep, .int mcoded, .int mlines, .ref nl, .ref nc, .ref nF, .ref np, .ref ntr, .ref nb, .int mbestCost, .ref nso, .ref nsi, .ref nit, .ref nsh, .ref nsf, .ref nss, .ref nrc, .int 0, .int 3, .int (nI jno), .int (fnw (32 + 6 * jno + 0)), .int (fnw (32 + 6 * jno + 2)), .int 0])), (nw, .inl (G.2.1, 1662, .inl fnw)), (nsh, .inl (G.2.1, 4, .inl fnsh)), (nsf, .inl (G.2.1, 4, .inl fnsf)), (nrc, .inl (G.2.1, 30, .inl fnrc))]) rfl (Nat.le_of_ble_eq_true rfl) rfl (by decide +kernel) (by decide +kernel) dX12_deal_199 (fun H locs hP hD hS => ?_)
        obtain ⟨jdl, hjdl, rfl⟩ := Wi_nat (N := 3) (by decide) a6327
        rcases (show jdl = 0 ∨ jdl = 1 ∨ jdl = 2 ∨ jdl = 3 by omega) with rfl | rfl | rfl | rfl
        · refine lv_aload_n hx hb dX12_deal_202 rfl (lv_at hl 3 rfl) ?_
          refine lv_iload_n hx hb dX12_deal_203 rfl (lv_at hl 5 rfl) ?_
          refine lv_iload_n hx hb dX12_deal_204 rfl (lv_at hl 6 rfl) ?_
          refine iV (wr := [(nw, .inl (G.2.1, 1662, .inl fnw)), (nsh, .inl (G.2.1, 4, .inl fnsh)), (nsf, .inl (G.2.1, 4, .inl fnsf))]) hC hK hl hP hD hS hA (m_dealt0 l G h0 x3 nw nk mhasKept nt mtaped nr mrowMany mroundOf mroundFrom mouts nm mfromHour mtoHour ns mfrom mto msort misFault mdeep mcoded mlines nl nc nF np ntr nb mbestCost nso nsi nit nsh nsf nss nrc 0 3 (nI jno) (fnw (32 + 6 * jno + 0)) (fnw (32 + 6 * jno + 2)) 0 fnrc (by omega) (by omega)) si_X12_372 [0, 4] [1, 2, 3] rfl rfl (by decide) rfl (by decide) (by decide) rfl rfl rfl rfl rfl (Nat.le_of_ble_eq_true rfl) ⟨Nat.le_of_ble_eq_true rfl, Nat.le_of_ble_eq_true rfl⟩ ⟨Nat.le_of_ble_eq_true rfl, Nat.le_of_ble_eq_true rfl⟩ dX12_deal_205 (fun r6407 u6408 H locs hr6407 hP hD hS => ?_)
          obtain ⟨jr16409, ip16410, gtrc6411⟩ := u6408
          try dsimp only at hr6407
          have hP : va_P G.1 vwCl [(nw, .inl (G.2.1, 1662, .inl fnw)), (nsh, .inl (G.2.1, 4, .inl fnsh)), (nsf, .inl (G.2.1, 4, .inl fnsf)), (h0, .inr (12, [.ref nw, .ref nk, .int mhasKept, .ref nt, .int mtaped, .ref nr, .int mrowMany, .int mroundOf, .int mroundFrom, .int mouts, .ref nm, .int mfromHour, .int mtoHour, .ref ns, .int mfrom, .int mto, .int msort, .int misFault, .int mdeep, .int mcoded, .int mlines, .ref nl, .ref nc, .ref nF, .ref np, .ref ntr, .ref nb, .int mbestCost, .ref nso, .ref nsi, .ref nit, .ref nsh, .ref nsf, .ref nss, .ref nrc, .int (nI jr16409), .int 3, .int (nI jno), .int (fnw (32 + 6 * jno + 0)), .int (fnw (32 + 6 * jno + 2)), .int ip16410])), (nrc, .inl (G.2.1, 30, .inl gtrc6411))] H := hP
          have hD : va_D A [(nw, .inl (G.2.1, 1662, .inl fnw)), (nsh, .inl (G.2.1, 4, .inl fnsh)), (nsf, .inl (G.2.1, 4, .inl fnsf)), (h0, .inr (12, [.ref nw, .ref nk, .int mhasKept, .ref nt, .int mtaped, .ref nr, .int mrowMany, .int mroundOf, .int mroundFrom, .int mouts, .ref nm, .int mfromHour, .int mtoHour, .ref ns, .int mfrom, .int mto, .int msort, .int misFault, .int mdeep, .int mcoded, .int mlines, .ref nl, .ref nc, .ref nF, .ref np, .ref ntr, .ref nb, .int mbestCost, .ref nso, .ref nsi, .ref nit, .ref nsh, .ref nsf, .ref nss, .ref nrc, .int (nI jr16409), .int 3, .int (nI jno), .int (fnw (32 + 6 * jno + 0)), .int (fnw (32 + 6 * jno + 2)), .int ip16410])), (nrc, .inl (G.2.1, 30, .inl gtrc6411))] := hD
          obtain ⟨hr6407, w6412⟩ := hr6407
          refine lv_istore (lv' := [(7, .int r6407), (6, .int 0), (5, .int 1), (4, .int 3), (0, .ref h0), (1, .int (nI jt)), (2, .int 0), (3, .int x3)]) hx hb dX12_deal_208 hl (by decide) rfl (fun ls hl => ?_)
          refine lv_aload_n hx hb dX12_deal_210 rfl (lv_at hl 4 rfl) ?_
          refine gf_X12_380 hC rfl hK hP 3 rfl rfl dX12_deal_211 ?_
          refine lv_if_eq (tgt := 222) hx hb dX12_deal_214 (by decide) (fun c_214_6413 => ?_) (fun c_214_6413 => ?_)
          · refine lv_iload hx hb dX12_deal_222 (lv_at hl 0 rfl) ?_
            exact RI (v := r6407) hC hP hD hS [3, 0, 1, 2, 4] (jr16409, 3, nI jno, fnw (32 + 6 * jno + 0), fnw (32 + 6 * jno + 2), ip16410, gtrc6411) rfl rfl (by decide) (⟨trivial, by omega⟩) rfl dX12_deal_224
          · refine lv_bipush (v := (-15)) hx hb dX12_deal_217 (by decide) ?_
            refine lv_goto (tgt := 224) hx hb dX12_deal_219 (by decide) ?_
            exact RI (v := (-15)) hC hP hD hS [3, 0, 1, 2, 4] (jr16409, 3, nI jno, fnw (32 + 6 * jno + 0), fnw (32 + 6 * jno + 2), ip16410, gtrc6411) rfl rfl (by decide) (⟨trivial, by omega⟩) rfl dX12_deal_224
        · refine lv_aload_n hx hb dX12_deal_202 rfl (lv_at hl 3 rfl) ?_
          refine lv_iload_n hx hb dX12_deal_203 rfl (lv_at hl 5 rfl) ?_
          refine lv_iload_n hx hb dX12_deal_204 rfl (lv_at hl 6 rfl) ?_
          refine iV (wr := [(nw, .inl (G.2.1, 1662, .inl fnw)), (nsh, .inl (G.2.1, 4, .inl fnsh)), (nsf, .inl (G.2.1, 4, .inl fnsf))]) hC hK hl hP hD hS hA (m_dealt1 l G h0 x3 nw nk mhasKept nt mtaped nr mrowMany mroundOf mroundFrom mouts nm mfromHour mtoHour ns mfrom mto msort misFault mdeep mcoded mlines nl nc nF np ntr nb mbestCost nso nsi nit nsh nsf nss nrc 0 3 (nI jno) (fnw (32 + 6 * jno + 0)) (fnw (32 + 6 * jno + 2)) 0 fnrc (by omega) (by omega)) si_X12_372 [0, 4] [1, 2, 3] rfl rfl (by decide) rfl (by decide) (by decide) rfl rfl rfl rfl rfl (Nat.le_of_ble_eq_true rfl) ⟨Nat.le_of_ble_eq_true rfl, Nat.le_of_ble_eq_true rfl⟩ ⟨Nat.le_of_ble_eq_true rfl, Nat.le_of_ble_eq_true rfl⟩ dX12_deal_205 (fun r6414 u6415 H locs hr6414 hP hD hS => ?_)
          obtain ⟨jr16416, ip16417, gtrc6418⟩ := u6415
          try dsimp only at hr6414
          have hP : va_P G.1 vwCl [(nw, .inl (G.2.1, 1662, .inl fnw)), (nsh, .inl (G.2.1, 4, .inl fnsh)), (nsf, .inl (G.2.1, 4, .inl fnsf)), (h0, .inr (12, [.ref nw, .ref nk, .int mhasKept, .ref nt, .int mtaped, .ref nr, .int mrowMany, .int mroundOf, .int mroundFrom, .int mouts, .ref nm, .int mfromHour, .int mtoHour, .ref ns, .int mfrom, .int mto, .int msort, .int misFault, .int mdeep, .int mcoded, .int mlines, .ref nl, .ref nc, .ref nF, .ref np, .ref ntr, .ref nb, .int mbestCost, .ref nso, .ref nsi, .ref nit, .ref nsh, .ref nsf, .ref nss, .ref nrc, .int (nI jr16416), .int 3, .int (nI jno), .int (fnw (32 + 6 * jno + 0)), .int (fnw (32 + 6 * jno + 2)), .int ip16417])), (nrc, .inl (G.2.1, 30, .inl gtrc6418))] H := hP
          have hD : va_D A [(nw, .inl (G.2.1, 1662, .inl fnw)), (nsh, .inl (G.2.1, 4, .inl fnsh)), (nsf, .inl (G.2.1, 4, .inl fnsf)), (h0, .inr (12, [.ref nw, .ref nk, .int mhasKept, .ref nt, .int mtaped, .ref nr, .int mrowMany, .int mroundOf, .int mroundFrom, .int mouts, .ref nm, .int mfromHour, .int mtoHour, .ref ns, .int mfrom, .int mto, .int msort, .int misFault, .int mdeep, .int mcoded, .int mlines, .ref nl, .ref nc, .ref nF, .ref np, .ref ntr, .ref nb, .int mbestCost, .ref nso, .ref nsi, .ref nit, .ref nsh, .ref nsf, .ref nss, .ref nrc, .int (nI jr16416), .int 3, .int (nI jno), .int (fnw (32 + 6 * jno + 0)), .int (fnw (32 + 6 * jno + 2)), .int ip16417])), (nrc, .inl (G.2.1, 30, .inl gtrc6418))] := hD
          obtain ⟨hr6414, w6419⟩ := hr6414
          refine lv_istore (lv' := [(7, .int r6414), (6, .int 0), (5, .int 1), (4, .int 3), (0, .ref h0), (1, .int (nI jt)), (2, .int 1), (3, .int x3)]) hx hb dX12_deal_208 hl (by decide) rfl (fun ls hl => ?_)
          refine lv_aload_n hx hb dX12_deal_210 rfl (lv_at hl 4 rfl) ?_
          refine gf_X12_380 hC rfl hK hP 3 rfl rfl dX12_deal_211 ?_
          refine lv_if_eq (tgt := 222) hx hb dX12_deal_214 (by decide) (fun c_214_6420 => ?_) (fun c_214_6420 => ?_)
          · refine lv_iload hx hb dX12_deal_222 (lv_at hl 0 rfl) ?_
            exact RI (v := r6414) hC hP hD hS [3, 0, 1, 2, 4] (jr16416, 3, nI jno, fnw (32 + 6 * jno + 0), fnw (32 + 6 * jno + 2), ip16417, gtrc6418) rfl rfl (by decide) (⟨trivial, by omega⟩) rfl dX12_deal_224
          · refine lv_bipush (v := (-15)) hx hb dX12_deal_217 (by decide) ?_
            refine lv_goto (tgt := 224) hx hb dX12_deal_219 (by decide) ?_
            exact RI (v := (-15)) hC hP hD hS [3, 0, 1, 2, 4] (jr16416, 3, nI jno, fnw (32 + 6 * jno + 0), fnw (32 + 6 * jno + 2), ip16417, gtrc6418) rfl rfl (by decide) (⟨trivial, by omega⟩) rfl dX12_deal_224
        · refine lv_aload_n hx hb dX12_deal_202 rfl (lv_at hl 3 rfl) ?_
          refine lv_iload_n hx hb dX12_deal_203 rfl (lv_at hl 5 rfl) ?_
          refine lv_iload_n hx hb dX12_deal_204 rfl (lv_at hl 6 rfl) ?_
          refine iV (wr := [(nw, .inl (G.2.1, 1662, .inl fnw)), (nsh, .inl (G.2.1, 4, .inl fnsh)), (nsf, .inl (G.2.1, 4, .inl fnsf))]) hC hK hl hP hD hS hA (m_dealt2 l G h0 x3 nw nk mhasKept nt mtaped nr mrowMany mroundOf mroundFrom mouts nm mfromHour mtoHour ns mfrom mto msort misFault mdeep mcoded mlines nl nc nF np ntr nb mbestCost nso nsi nit nsh nsf nss nrc 0 3 (nI jno) (fnw (32 + 6 * jno + 0)) (fnw (32 + 6 * jno + 2)) 0 fnrc (by omega) (by omega)) si_X12_372 [0, 4] [1, 2, 3] rfl rfl (by decide) rfl (by decide) (by decide) rfl rfl rfl rfl rfl (Nat.le_of_ble_eq_true rfl) ⟨Nat.le_of_ble_eq_true rfl, Nat.le_of_ble_eq_true rfl⟩ ⟨Nat.le_of_ble_eq_true rfl, Nat.le_of_ble_eq_true rfl⟩ dX12_deal_205 (fun r6421 u6422 H locs hr6421 hP hD hS => ?_)
          obtain ⟨jr16423, ip16424, gtrc6425⟩ := u6422
          try dsimp only at hr6421
          have hP : va_P G.1 vwCl [(nw, .inl (G.2.1, 1662, .inl fnw)), (nsh, .inl (G.2.1, 4, .inl fnsh)), (nsf, .inl (G.2.1, 4, .inl fnsf)), (h0, .inr (12, [.ref nw, .ref nk, .int mhasKept, .ref nt, .int mtaped, .ref nr, .int mrowMany, .int mroundOf, .int mroundFrom, .int mouts, .ref nm, .int mfromHour, .int mtoHour, .ref ns, .int mfrom, .int mto, .int msort, .int misFault, .int mdeep, .int mcoded, .int mlines, .ref nl, .ref nc, .ref nF, .ref np, .ref ntr, .ref nb, .int mbestCost, .ref nso, .ref nsi, .ref nit, .ref nsh, .ref nsf, .ref nss, .ref nrc, .int (nI jr16423), .int 3, .int (nI jno), .int (fnw (32 + 6 * jno + 0)), .int (fnw (32 + 6 * jno + 2)), .int ip16424])), (nrc, .inl (G.2.1, 30, .inl gtrc6425))] H := hP
          have hD : va_D A [(nw, .inl (G.2.1, 1662, .inl fnw)), (nsh, .inl (G.2.1, 4, .inl fnsh)), (nsf, .inl (G.2.1, 4, .inl fnsf)), (h0, .inr (12, [.ref nw, .ref nk, .int mhasKept, .ref nt, .int mtaped, .ref nr, .int mrowMany, .int mroundOf, .int mroundFrom, .int mouts, .ref nm, .int mfromHour, .int mtoHour, .ref ns, .int mfrom, .int mto, .int msort, .int misFault, .int mdeep, .int mcoded, .int mlines, .ref nl, .ref nc, .ref nF, .ref np, .ref ntr, .ref nb, .int mbestCost, .ref nso, .ref nsi, .ref nit, .ref nsh, .ref nsf, .ref nss, .ref nrc, .int (nI jr16423), .int 3, .int (nI jno), .int (fnw (32 + 6 * jno + 0)), .int (fnw (32 + 6 * jno + 2)), .int ip16424])), (nrc, .inl (G.2.1, 30, .inl gtrc6425))] := hD
          obtain ⟨hr6421, w6426⟩ := hr6421
          refine lv_istore (lv' := [(7, .int r6421), (6, .int 0), (5, .int 1), (4, .int 3), (0, .ref h0), (1, .int (nI jt)), (2, .int 2), (3, .int x3)]) hx hb dX12_deal_208 hl (by decide) rfl (fun ls hl => ?_)
          refine lv_aload_n hx hb dX12_deal_210 rfl (lv_at hl 4 rfl) ?_
          refine gf_X12_380 hC rfl hK hP 3 rfl rfl dX12_deal_211 ?_
          refine lv_if_eq (tgt := 222) hx hb dX12_deal_214 (by decide) (fun c_214_6427 => ?_) (fun c_214_6427 => ?_)
          · refine lv_iload hx hb dX12_deal_222 (lv_at hl 0 rfl) ?_
            exact RI (v := r6421) hC hP hD hS [3, 0, 1, 2, 4] (jr16423, 3, nI jno, fnw (32 + 6 * jno + 0), fnw (32 + 6 * jno + 2), ip16424, gtrc6425) rfl rfl (by decide) (⟨trivial, by omega⟩) rfl dX12_deal_224
          · refine lv_bipush (v := (-15)) hx hb dX12_deal_217 (by decide) ?_
            refine lv_goto (tgt := 224) hx hb dX12_deal_219 (by decide) ?_
            exact RI (v := (-15)) hC hP hD hS [3, 0, 1, 2, 4] (jr16423, 3, nI jno, fnw (32 + 6 * jno + 0), fnw (32 + 6 * jno + 2), ip16424, gtrc6425) rfl rfl (by decide) (⟨trivial, by omega⟩) rfl dX12_deal_224
        · refine lv_aload_n hx hb dX12_deal_202 rfl (lv_at hl 3 rfl) ?_
          refine lv_iload_n hx hb dX12_deal_203 rfl (lv_at hl 5 rfl) ?_
          refine lv_iload_n hx hb dX12_deal_204 rfl (lv_at hl 6 rfl) ?_
          refine iV (wr := [(nw, .inl (G.2.1, 1662, .inl fnw)), (nsh, .inl (G.2.1, 4, .inl fnsh)), (nsf, .inl (G.2.1, 4, .inl fnsf))]) hC hK hl hP hD hS hA (m_dealt3 l G h0 x3 nw nk mhasKept nt mtaped nr mrowMany mroundOf mroundFrom mouts nm mfromHour mtoHour ns mfrom mto msort misFault mdeep mcoded mlines nl nc nF np ntr nb mbestCost nso nsi nit nsh nsf nss nrc 0 3 (nI jno) (fnw (32 + 6 * jno + 0)) (fnw (32 + 6 * jno + 2)) 0 fnrc (by omega) (by omega)) si_X12_372 [0, 4] [1, 2, 3] rfl rfl (by decide) rfl (by decide) (by decide) rfl rfl rfl rfl rfl (Nat.le_of_ble_eq_true rfl) ⟨Nat.le_of_ble_eq_true rfl, Nat.le_of_ble_eq_true rfl⟩ ⟨Nat.le_of_ble_eq_true rfl, Nat.le_of_ble_eq_true rfl⟩ dX12_deal_205 (fun r6428 u6429 H locs hr6428 hP hD hS => ?_)
          obtain ⟨jr16430, ip16431, gtrc6432⟩ := u6429
          try dsimp only at hr6428
          have hP : va_P G.1 vwCl [(nw, .inl (G.2.1, 1662, .inl fnw)), (nsh, .inl (G.2.1, 4, .inl fnsh)), (nsf, .inl (G.2.1, 4, .inl fnsf)), (h0, .inr (12, [.ref nw, .ref nk, .int mhasKept, .ref nt, .int mtaped, .ref nr, .int mrowMany, .int mroundOf, .int mroundFrom, .int mouts, .ref nm, .int mfromHour, .int mtoHour, .ref ns, .int mfrom, .int mto, .int msort, .int misFault, .int mdeep, .int mcoded, .int mlines, .ref nl, .ref nc, .ref nF, .ref np, .ref ntr, .ref nb, .int mbestCost, .ref nso, .ref nsi, .ref nit, .ref nsh, .ref nsf, .ref nss, .ref nrc, .int (nI jr16430), .int 3, .int (nI jno), .int (fnw (32 + 6 * jno + 0)), .int (fnw (32 + 6 * jno + 2)), .int ip16431])), (nrc, .inl (G.2.1, 30, .inl gtrc6432))] H := hP
          have hD : va_D A [(nw, .inl (G.2.1, 1662, .inl fnw)), (nsh, .inl (G.2.1, 4, .inl fnsh)), (nsf, .inl (G.2.1, 4, .inl fnsf)), (h0, .inr (12, [.ref nw, .ref nk, .int mhasKept, .ref nt, .int mtaped, .ref nr, .int mrowMany, .int mroundOf, .int mroundFrom, .int mouts, .ref nm, .int mfromHour, .int mtoHour, .ref ns, .int mfrom, .int mto, .int msort, .int misFault, .int mdeep, .int mcoded, .int mlines, .ref nl, .ref nc, .ref nF, .ref np, .ref ntr, .ref nb, .int mbestCost, .ref nso, .ref nsi, .ref nit, .ref nsh, .ref nsf, .ref nss, .ref nrc, .int (nI jr16430), .int 3, .int (nI jno), .int (fnw (32 + 6 * jno + 0)), .int (fnw (32 + 6 * jno + 2)), .int ip16431])), (nrc, .inl (G.2.1, 30, .inl gtrc6432))] := hD
          obtain ⟨hr6428, w6433⟩ := hr6428
          refine lv_istore (lv' := [(7, .int r6428), (6, .int 0), (5, .int 1), (4, .int 3), (0, .ref h0), (1, .int (nI jt)), (2, .int 3), (3, .int x3)]) hx hb dX12_deal_208 hl (by decide) rfl (fun ls hl => ?_)
          refine lv_aload_n hx hb dX12_deal_210 rfl (lv_at hl 4 rfl) ?_
          refine gf_X12_380 hC rfl hK hP 3 rfl rfl dX12_deal_211 ?_
          refine lv_if_eq (tgt := 222) hx hb dX12_deal_214 (by decide) (fun c_214_6434 => ?_) (fun c_214_6434 => ?_)
          · refine lv_iload hx hb dX12_deal_222 (lv_at hl 0 rfl) ?_
            exact RI (v := r6428) hC hP hD hS [3, 0, 1, 2, 4] (jr16430, 3, nI jno, fnw (32 + 6 * jno + 0), fnw (32 + 6 * jno + 2), ip16431, gtrc6432) rfl rfl (by decide) (⟨trivial, by omega⟩) rfl dX12_deal_224
          · refine lv_bipush (v := (-15)) hx hb dX12_deal_217 (by decide) ?_
            refine lv_goto (tgt := 224) hx hb dX12_deal_219 (by decide) ?_
            exact RI (v := (-15)) hC hP hD hS [3, 0, 1, 2, 4] (jr16430, 3, nI jno, fnw (32 + 6 * jno + 0), fnw (32 + 6 * jno + 2), ip16431, gtrc6432) rfl rfl (by decide) (⟨trivial, by omega⟩) rfl dX12_deal_224
      · refine lv_istore (lv' := [(4, .int 4), (0, .ref h0), (1, .int (nI jt)), (2, .int x2), (3, .int x3)]) hx hb dX12_deal_28 hl (by decide) rfl (fun ls hl => ?_)
        refine lv_iload hx hb dX12_deal_30 (lv_at hl 0 rfl) ?_
        refine lv_if_ge (tgt := 37) hx hb dX12_deal_32 (by decide) (fun _ => ?_) (fun c9 => absurd (by decide) c9)
        refine lv_aload_n hx hb dX12_deal_37 rfl (lv_at hl 1 rfl) ?_
        refine lv_iload hx hb dX12_deal_38 (lv_at hl 0 rfl) ?_
        refine pf_X12_354 hC rfl hK hP hD hS 0 (ws' := [(h0, .inr (12, [.ref nw, .ref nk, .int mhasKept, .ref nt, .int mtaped, .ref nr, .int mrowMany, .int mroundOf, .int mroundFrom, .int mouts, .ref nm, .int mfromHour, .int mtoHour, .ref ns, .int mfrom, .int mto, .int msort, .int misFault, .int mdeep, .int mcoded, .int mlines, .ref nl, .ref nc, .ref nF, .ref np, .ref ntr, .ref nb, .int mbestCost, .ref nso, .ref nsi, .ref nit, .ref nsh, .ref nsf, .ref nss, .ref nrc, .int 0, .int 4, .int mnumber, .int mwhose, .int msize, .int misParted])), (nw, .inl (G.2.1, 1662, .inl fnw)), (nsh, .inl (G.2.1, 4, .inl fnsh)), (nsf, .inl (G.2.1, 4, .inl fnsf)), (nrc, .inl (G.2.1, 30, .inl fnrc))]) rfl (Nat.le_of_ble_eq_true rfl) rfl rfl rfl dX12_deal_40 (fun H locs hP hD hS => ?_)
        refine lv_aload_n hx hb dX12_deal_43 rfl (lv_at hl 1 rfl) ?_
        refine lv_aload_n hx hb dX12_deal_44 rfl (lv_at hl 1 rfl) ?_
        refine gf_X12_75 hC rfl hK hP 0 rfl rfl dX12_deal_45 ?_
        refine lv_iload_n hx hb dX12_deal_48 rfl (lv_at hl 2 rfl) ?_
        refine ald hC hK hP 3 rfl (vp_in_nI (by omega) (by omega)) (k := jt) (nI_clamp (by omega)) (v := fnsf jt) rfl dX12_deal_49 ?_
        refine lv_topi (fun x6435 ex6435 => ?_)
        obtain ⟨hko9, jno, hjno, ejno⟩ := a6329
        refine eqi (x1 := nI jno) (ex6435.trans ejno) ?_
        refine pf_X12_378 hC rfl hK hP hD hS 0 (ws' := [(h0, .inr (12, [.ref nw, .ref nk, .int mhasKept, .ref nt, .int mtaped, .ref nr, .int mrowMany, .int mroundOf, .int mroundFrom, .int mouts, .ref nm, .int mfromHour, .int mtoHour, .ref ns, .int mfrom, .int mto, .int msort, .int misFault, .int mdeep, .int mcoded, .int mlines, .ref nl, .ref nc, .ref nF, .ref np, .ref ntr, .ref nb, .int mbestCost, .ref nso, .ref nsi, .ref nit, .ref nsh, .ref nsf, .ref nss, .ref nrc, .int 0, .int 4, .int (nI jno), .int mwhose, .int msize, .int misParted])), (nw, .inl (G.2.1, 1662, .inl fnw)), (nsh, .inl (G.2.1, 4, .inl fnsh)), (nsf, .inl (G.2.1, 4, .inl fnsf)), (nrc, .inl (G.2.1, 30, .inl fnrc))]) rfl (Nat.le_of_ble_eq_true rfl) rfl rfl rfl dX12_deal_50 (fun H locs hP hD hS => ?_)
        refine lv_aload_n hx hb dX12_deal_53 rfl (lv_at hl 1 rfl) ?_
        refine gf_X12_72 hC rfl hK hP 0 rfl rfl dX12_deal_54 ?_
        refine lv_iload_n hx hb dX12_deal_57 rfl (lv_at hl 2 rfl) ?_
        refine ald hC hK hP 2 rfl (vp_in_nI (by omega) (by omega)) (k := jt) (nI_clamp (by omega)) (v := fnsh jt) rfl dX12_deal_58 ?_
        refine lv_topi (fun x6436 ex6436 => ?_)
        refine lv_iconst (v := 1) hx hb dX12_deal_59 (by decide) ?_
        refine lv_icmp_ne (tgt := 67) hx hb dX12_deal_60 (by decide) (fun _ => ?_) (fun c9 => absurd c9 (fun h9 => absurd (hko9.symm.trans ((ex6436.symm).trans h9)) (by decide)))
        refine lv_iconst (v := 0) hx hb dX12_deal_67 (by decide) ?_
        refine lv_istore (lv' := [(5, .int 0), (4, .int 4), (0, .ref h0), (1, .int (nI jt)), (2, .int x2), (3, .int x3)]) hx hb dX12_deal_68 hl (by decide) rfl (fun ls hl => ?_)
        refine lv_aload_n hx hb dX12_deal_70 rfl (lv_at hl 2 rfl) ?_
        refine gf_X12_72 hC rfl hK hP 0 rfl rfl dX12_deal_71 ?_
        refine lv_iload_n hx hb dX12_deal_74 rfl (lv_at hl 3 rfl) ?_
        refine ald hC hK hP 2 rfl (vp_in_nI (by omega) (by omega)) (k := jt) (nI_clamp (by omega)) (v := fnsh jt) rfl dX12_deal_75 ?_
        refine lv_topi (fun x6437 ex6437 => ?_)
        refine lv_iconst (v := 2) hx hb dX12_deal_76 (by decide) ?_
        refine lv_icmp_ne (tgt := 84) hx hb dX12_deal_77 (by decide) (fun c9 => absurd (ex6437.trans hko9) c9) (fun _ => ?_)
        refine lv_iconst (v := 1) hx hb dX12_deal_80 (by decide) ?_
        refine lv_goto (tgt := 85) hx hb dX12_deal_81 (by decide) ?_
        refine lv_istore (lv' := [(6, .int 1), (5, .int 0), (4, .int 4), (0, .ref h0), (1, .int (nI jt)), (2, .int x2), (3, .int x3)]) hx hb dX12_deal_85 hl (by decide) rfl (fun ls hl => ?_)
        refine lv_aload_n hx hb dX12_deal_87 rfl (lv_at hl 3 rfl) ?_
        refine lv_iload hx hb dX12_deal_88 (lv_at hl 1 rfl) ?_
        refine lv_if_eq (tgt := 105) hx hb dX12_deal_90 (by decide) (fun _ => ?_) (fun c9 => absurd (by decide) c9)
        refine lv_iload hx hb dX12_deal_105 (lv_at hl 0 rfl) ?_
        refine lv_if_eq (tgt := 122) hx hb dX12_deal_107 (by decide) (fun c9 => absurd c9 (by decide)) (fun _ => ?_)
        refine lv_aload_n hx hb dX12_deal_110 rfl (lv_at hl 3 rfl) ?_
        refine lv_aload_n hx hb dX12_deal_111 rfl (lv_at hl 3 rfl) ?_
        refine gf_X12_378 hC rfl hK hP 0 rfl rfl dX12_deal_112 ?_
        refine lv_iconst (v := 0) hx hb dX12_deal_115 (by decide) ?_
        refine pV hC hK hl hP hD (m_saying l G h0 jno 0 nw nk mhasKept nt mtaped nr mrowMany mroundOf mroundFrom mouts nm mfromHour mtoHour ns mfrom mto msort misFault mdeep mcoded mlines nl nc nF np ntr nb mbestCost nso nsi nit nsh nsf nss nrc 0 4 (nI jno) mwhose msize misParted fnw (by omega) (by omega)) si_X12_114 [0, 1] rfl rfl (by decide) rfl rfl rfl rfl rfl (Nat.le_of_ble_eq_true rfl) ⟨Nat.le_of_ble_eq_true rfl, Nat.le_of_ble_eq_true rfl⟩ ⟨by first | exact Nat.le_of_ble_eq_true rfl | exact Nat.zero_le _, by first | exact Nat.le_of_ble_eq_true rfl | exact Nat.zero_le _⟩ dX12_deal_116 (fun r6438 hr6438 => ?_)
        obtain rfl := hr6438
        refine lv_goto (tgt := 139) hx hb dX12_deal_119 (by decide) ?_
        refine pf_X12_375 hC rfl hK hP hD hS 0 (ws' := [(h0, .inr (12, [.ref nw, .ref nk, .int mhasKept, .ref nt, .int mtaped, .ref nr, .int mrowMany, .int mroundOf, .int mroundFrom, .int mouts, .ref nm, .int mfromHour, .int mtoHour, .ref ns, .int mfrom, .int mto, .int msort, .int misFault, .int mdeep, .int mcoded, .int mlines, .ref nl, .ref nc, .ref nF, .ref np, .ref ntr, .ref nb, .int mbestCost, .ref nso, .ref nsi, .ref nit, .ref nsh, .ref nsf, .ref nss, .ref nrc, .int 0, .int 4, .int (nI jno), .int (fnw (1424 + 8 * jno + 0)), .int msize, .int misParted])), (nw, .inl (G.2.1, 1662, .inl fnw)), (nsh, .inl (G.2.1, 4, .inl fnsh)), (nsf, .inl (G.2.1, 4, .inl fnsf)), (nrc, .inl (G.2.1, 30, .inl fnrc))]) rfl (Nat.le_of_ble_eq_true rfl) rfl rfl rfl dX12_deal_139 (fun H locs hP hD hS => ?_)
        refine lv_aload_n hx hb dX12_deal_142 rfl (lv_at hl 3 rfl) ?_
        refine lv_iload hx hb dX12_deal_143 (lv_at hl 1 rfl) ?_
        refine lv_if_eq (tgt := 160) hx hb dX12_deal_145 (by decide) (fun _ => ?_) (fun c9 => absurd (by decide) c9)
        refine lv_iload hx hb dX12_deal_160 (lv_at hl 0 rfl) ?_
        refine lv_if_eq (tgt := 177) hx hb dX12_deal_162 (by decide) (fun c9 => absurd c9 (by decide)) (fun _ => ?_)
        refine lv_aload_n hx hb dX12_deal_165 rfl (lv_at hl 3 rfl) ?_
        refine lv_aload_n hx hb dX12_deal_166 rfl (lv_at hl 3 rfl) ?_
        refine gf_X12_378 hC rfl hK hP 0 rfl rfl dX12_deal_167 ?_
        refine lv_iconst (v := 4) hx hb dX12_deal_170 (by decide) ?_
        refine pV hC hK hl hP hD (m_saying l G h0 jno 4 nw nk mhasKept nt mtaped nr mrowMany mroundOf mroundFrom mouts nm mfromHour mtoHour ns mfrom mto msort misFault mdeep mcoded mlines nl nc nF np ntr nb mbestCost nso nsi nit nsh nsf nss nrc 0 4 (nI jno) (fnw (1424 + 8 * jno + 0)) msize misParted fnw (by omega) (by omega)) si_X12_114 [0, 1] rfl rfl (by decide) rfl rfl rfl rfl rfl (Nat.le_of_ble_eq_true rfl) ⟨Nat.le_of_ble_eq_true rfl, Nat.le_of_ble_eq_true rfl⟩ ⟨by first | exact Nat.le_of_ble_eq_true rfl | exact Nat.zero_le _, by first | exact Nat.le_of_ble_eq_true rfl | exact Nat.zero_le _⟩ dX12_deal_171 (fun r6440 hr6440 => ?_)
        obtain rfl := hr6440
        refine lv_goto (tgt := 194) hx hb dX12_deal_174 (by decide) ?_
        refine pf_X12_369 hC rfl hK hP hD hS 0 (ws' := [(h0, .inr (12, [.ref nw, .ref nk, .int mhasKept, .ref nt, .int mtaped, .ref nr, .int mrowMany, .int mroundOf, .int mroundFrom, .int mouts, .ref nm, .int mfromHour, .int mtoHour, .ref ns, .int mfrom, .int mto, .int msort, .int misFault, .int mdeep, .int mcoded, .int mlines, .ref nl, .ref nc, .ref nF, .ref np, .ref ntr, .ref nb, .int mbestCost, .ref nso, .ref nsi, .ref nit, .ref nsh, .ref nsf, .ref nss, .ref nrc, .int 0, .int 4, .int (nI jno), .int (fnw (1424 + 8 * jno + 0)), .int (fnw (1424 + 8 * jno + 4)), .int misParted])), (nw, .inl (G.2.1, 1662, .inl fnw)), (nsh, .inl (G.2.1, 4, .inl fnsh)), (nsf, .inl (G.2.1, 4, .inl fnsf)), (nrc, .inl (G.2.1, 30, .inl fnrc))]) rfl (Nat.le_of_ble_eq_true rfl) rfl rfl rfl dX12_deal_194 (fun H locs hP hD hS => ?_)
        refine lv_aload_n hx hb dX12_deal_197 rfl (lv_at hl 3 rfl) ?_
        refine lv_iconst (v := 0) hx hb dX12_deal_198 (by decide) ?_
        refine pf_X12_380 hC rfl hK hP hD hS 0 (ws' := [(h0, .inr (12, [.ref nw, .ref nk, .int mhasKept, .ref nt, .int mtaped, .ref nr, .int mrowMany, .int mroundOf, .int mroundFrom, .int mouts, .ref nm, .int mfromHour, .int mtoHour, .ref ns, .int mfrom, .int mto, .int msort, .int misFault, .int mdeep, .int mcoded, .int mlines, .ref nl, .ref nc, .ref nF, .ref np, .ref ntr, .ref nb, .int mbestCost, .ref nso, .ref nsi, .ref nit, .ref nsh, .ref nsf, .ref nss, .ref nrc, .int 0, .int 4, .int (nI jno), .int (fnw (1424 + 8 * jno + 0)), .int (fnw (1424 + 8 * jno + 4)), .int 0])), (nw, .inl (G.2.1, 1662, .inl fnw)), (nsh, .inl (G.2.1, 4, .inl fnsh)), (nsf, .inl (G.2.1, 4, .inl fnsf)), (nrc, .inl (G.2.1, 30, .inl fnrc))]) rfl (Nat.le_of_ble_eq_true rfl) rfl (by decide +kernel) (by decide +kernel) dX12_deal_199 (fun H locs hP hD hS => ?_)
        obtain ⟨jdl, hjdl, rfl⟩ := Wi_nat (N := 3) (by decide) a6327
        rcases (show jdl = 0 ∨ jdl = 1 ∨ jdl = 2 ∨ jdl = 3 by omega) with rfl | rfl | rfl | rfl
        · refine lv_aload_n hx hb dX12_deal_202 rfl (lv_at hl 3 rfl) ?_
          refine lv_iload_n hx hb dX12_deal_203 rfl (lv_at hl 5 rfl) ?_
          refine lv_iload_n hx hb dX12_deal_204 rfl (lv_at hl 6 rfl) ?_
          refine iV (wr := [(nw, .inl (G.2.1, 1662, .inl fnw)), (nsh, .inl (G.2.1, 4, .inl fnsh)), (nsf, .inl (G.2.1, 4, .inl fnsf))]) hC hK hl hP hD hS hA (m_dealt0 l G h0 x3 nw nk mhasKept nt mtaped nr mrowMany mroundOf mroundFrom mouts nm mfromHour mtoHour ns mfrom mto msort misFault mdeep mcoded mlines nl nc nF np ntr nb mbestCost nso nsi nit nsh nsf nss nrc 0 4 (nI jno) (fnw (1424 + 8 * jno + 0)) (fnw (1424 + 8 * jno + 4)) 0 fnrc (by omega) (by omega)) si_X12_372 [0, 4] [1, 2, 3] rfl rfl (by decide) rfl (by decide) (by decide) rfl rfl rfl rfl rfl (Nat.le_of_ble_eq_true rfl) ⟨Nat.le_of_ble_eq_true rfl, Nat.le_of_ble_eq_true rfl⟩ ⟨Nat.le_of_ble_eq_true rfl, Nat.le_of_ble_eq_true rfl⟩ dX12_deal_205 (fun r6442 u6443 H locs hr6442 hP hD hS => ?_)
          obtain ⟨jr16444, ip16445, gtrc6446⟩ := u6443
          try dsimp only at hr6442
          have hP : va_P G.1 vwCl [(nw, .inl (G.2.1, 1662, .inl fnw)), (nsh, .inl (G.2.1, 4, .inl fnsh)), (nsf, .inl (G.2.1, 4, .inl fnsf)), (h0, .inr (12, [.ref nw, .ref nk, .int mhasKept, .ref nt, .int mtaped, .ref nr, .int mrowMany, .int mroundOf, .int mroundFrom, .int mouts, .ref nm, .int mfromHour, .int mtoHour, .ref ns, .int mfrom, .int mto, .int msort, .int misFault, .int mdeep, .int mcoded, .int mlines, .ref nl, .ref nc, .ref nF, .ref np, .ref ntr, .ref nb, .int mbestCost, .ref nso, .ref nsi, .ref nit, .ref nsh, .ref nsf, .ref nss, .ref nrc, .int (nI jr16444), .int 4, .int (nI jno), .int (fnw (1424 + 8 * jno + 0)), .int (fnw (1424 + 8 * jno + 4)), .int ip16445])), (nrc, .inl (G.2.1, 30, .inl gtrc6446))] H := hP
          have hD : va_D A [(nw, .inl (G.2.1, 1662, .inl fnw)), (nsh, .inl (G.2.1, 4, .inl fnsh)), (nsf, .inl (G.2.1, 4, .inl fnsf)), (h0, .inr (12, [.ref nw, .ref nk, .int mhasKept, .ref nt, .int mtaped, .ref nr, .int mrowMany, .int mroundOf, .int mroundFrom, .int mouts, .ref nm, .int mfromHour, .int mtoHour, .ref ns, .int mfrom, .int mto, .int msort, .int misFault, .int mdeep, .int mcoded, .int mlines, .ref nl, .ref nc, .ref nF, .ref np, .ref ntr, .ref nb, .int mbestCost, .ref nso, .ref nsi, .ref nit, .ref nsh, .ref nsf, .ref nss, .ref nrc, .int (nI jr16444), .int 4, .int (nI jno), .int (fnw (1424 + 8 * jno + 0)), .int (fnw (1424 + 8 * jno + 4)), .int ip16445])), (nrc, .inl (G.2.1, 30, .inl gtrc6446))] := hD
          obtain ⟨hr6442, w6447⟩ := hr6442
          refine lv_istore (lv' := [(7, .int r6442), (6, .int 1), (5, .int 0), (4, .int 4), (0, .ref h0), (1, .int (nI jt)), (2, .int 0), (3, .int x3)]) hx hb dX12_deal_208 hl (by decide) rfl (fun ls hl => ?_)
          refine lv_aload_n hx hb dX12_deal_210 rfl (lv_at hl 4 rfl) ?_
          refine gf_X12_380 hC rfl hK hP 3 rfl rfl dX12_deal_211 ?_
          refine lv_if_eq (tgt := 222) hx hb dX12_deal_214 (by decide) (fun c_214_6448 => ?_) (fun c_214_6448 => ?_)
          · refine lv_iload hx hb dX12_deal_222 (lv_at hl 0 rfl) ?_
            exact RI (v := r6442) hC hP hD hS [3, 0, 1, 2, 4] (jr16444, 4, nI jno, fnw (1424 + 8 * jno + 0), fnw (1424 + 8 * jno + 4), ip16445, gtrc6446) rfl rfl (by decide) (⟨trivial, by omega⟩) rfl dX12_deal_224
          · refine lv_bipush (v := (-15)) hx hb dX12_deal_217 (by decide) ?_
            refine lv_goto (tgt := 224) hx hb dX12_deal_219 (by decide) ?_
            exact RI (v := (-15)) hC hP hD hS [3, 0, 1, 2, 4] (jr16444, 4, nI jno, fnw (1424 + 8 * jno + 0), fnw (1424 + 8 * jno + 4), ip16445, gtrc6446) rfl rfl (by decide) (⟨trivial, by omega⟩) rfl dX12_deal_224
        · refine lv_aload_n hx hb dX12_deal_202 rfl (lv_at hl 3 rfl) ?_
          refine lv_iload_n hx hb dX12_deal_203 rfl (lv_at hl 5 rfl) ?_
          refine lv_iload_n hx hb dX12_deal_204 rfl (lv_at hl 6 rfl) ?_
          refine iV (wr := [(nw, .inl (G.2.1, 1662, .inl fnw)), (nsh, .inl (G.2.1, 4, .inl fnsh)), (nsf, .inl (G.2.1, 4, .inl fnsf))]) hC hK hl hP hD hS hA (m_dealt1 l G h0 x3 nw nk mhasKept nt mtaped nr mrowMany mroundOf mroundFrom mouts nm mfromHour mtoHour ns mfrom mto msort misFault mdeep mcoded mlines nl nc nF np ntr nb mbestCost nso nsi nit nsh nsf nss nrc 0 4 (nI jno) (fnw (1424 + 8 * jno + 0)) (fnw (1424 + 8 * jno + 4)) 0 fnrc (by omega) (by omega)) si_X12_372 [0, 4] [1, 2, 3] rfl rfl (by decide) rfl (by decide) (by decide) rfl rfl rfl rfl rfl (Nat.le_of_ble_eq_true rfl) ⟨Nat.le_of_ble_eq_true rfl, Nat.le_of_ble_eq_true rfl⟩ ⟨Nat.le_of_ble_eq_true rfl, Nat.le_of_ble_eq_true rfl⟩ dX12_deal_205 (fun r6449 u6450 H locs hr6449 hP hD hS => ?_)
          obtain ⟨jr16451, ip16452, gtrc6453⟩ := u6450
          try dsimp only at hr6449
          have hP : va_P G.1 vwCl [(nw, .inl (G.2.1, 1662, .inl fnw)), (nsh, .inl (G.2.1, 4, .inl fnsh)), (nsf, .inl (G.2.1, 4, .inl fnsf)), (h0, .inr (12, [.ref nw, .ref nk, .int mhasKept, .ref nt, .int mtaped, .ref nr, .int mrowMany, .int mroundOf, .int mroundFrom, .int mouts, .ref nm, .int mfromHour, .int mtoHour, .ref ns, .int mfrom, .int mto, .int msort, .int misFault, .int mdeep, .int mcoded, .int mlines, .ref nl, .ref nc, .ref nF, .ref np, .ref ntr, .ref nb, .int mbestCost, .ref nso, .ref nsi, .ref nit, .ref nsh, .ref nsf, .ref nss, .ref nrc, .int (nI jr16451), .int 4, .int (nI jno), .int (fnw (1424 + 8 * jno + 0)), .int (fnw (1424 + 8 * jno + 4)), .int ip16452])), (nrc, .inl (G.2.1, 30, .inl gtrc6453))] H := hP
          have hD : va_D A [(nw, .inl (G.2.1, 1662, .inl fnw)), (nsh, .inl (G.2.1, 4, .inl fnsh)), (nsf, .inl (G.2.1, 4, .inl fnsf)), (h0, .inr (12, [.ref nw, .ref nk, .int mhasKept, .ref nt, .int mtaped, .ref nr, .int mrowMany, .int mroundOf, .int mroundFrom, .int mouts, .ref nm, .int mfromHour, .int mtoHour, .ref ns, .int mfrom, .int mto, .int msort, .int misFault, .int mdeep, .int mcoded, .int mlines, .ref nl, .ref nc, .ref nF, .ref np, .ref ntr, .ref nb, .int mbestCost, .ref nso, .ref nsi, .ref nit, .ref nsh, .ref nsf, .ref nss, .ref nrc, .int (nI jr16451), .int 4, .int (nI jno), .int (fnw (1424 + 8 * jno + 0)), .int (fnw (1424 + 8 * jno + 4)), .int ip16452])), (nrc, .inl (G.2.1, 30, .inl gtrc6453))] := hD
          obtain ⟨hr6449, w6454⟩ := hr6449
          refine lv_istore (lv' := [(7, .int r6449), (6, .int 1), (5, .int 0), (4, .int 4), (0, .ref h0), (1, .int (nI jt)), (2, .int 1), (3, .int x3)]) hx hb dX12_deal_208 hl (by decide) rfl (fun ls hl => ?_)
          refine lv_aload_n hx hb dX12_deal_210 rfl (lv_at hl 4 rfl) ?_
          refine gf_X12_380 hC rfl hK hP 3 rfl rfl dX12_deal_211 ?_
          refine lv_if_eq (tgt := 222) hx hb dX12_deal_214 (by decide) (fun c_214_6455 => ?_) (fun c_214_6455 => ?_)
          · refine lv_iload hx hb dX12_deal_222 (lv_at hl 0 rfl) ?_
            exact RI (v := r6449) hC hP hD hS [3, 0, 1, 2, 4] (jr16451, 4, nI jno, fnw (1424 + 8 * jno + 0), fnw (1424 + 8 * jno + 4), ip16452, gtrc6453) rfl rfl (by decide) (⟨trivial, by omega⟩) rfl dX12_deal_224
          · refine lv_bipush (v := (-15)) hx hb dX12_deal_217 (by decide) ?_
            refine lv_goto (tgt := 224) hx hb dX12_deal_219 (by decide) ?_
            exact RI (v := (-15)) hC hP hD hS [3, 0, 1, 2, 4] (jr16451, 4, nI jno, fnw (1424 + 8 * jno + 0), fnw (1424 + 8 * jno + 4), ip16452, gtrc6453) rfl rfl (by decide) (⟨trivial, by omega⟩) rfl dX12_deal_224
        · refine lv_aload_n hx hb dX12_deal_202 rfl (lv_at hl 3 rfl) ?_
          refine lv_iload_n hx hb dX12_deal_203 rfl (lv_at hl 5 rfl) ?_
          refine lv_iload_n hx hb dX12_deal_204 rfl (lv_at hl 6 rfl) ?_
          refine iV (wr := [(nw, .inl (G.2.1, 1662, .inl fnw)), (nsh, .inl (G.2.1, 4, .inl fnsh)), (nsf, .inl (G.2.1, 4, .inl fnsf))]) hC hK hl hP hD hS hA (m_dealt2 l G h0 x3 nw nk mhasKept nt mtaped nr mrowMany mroundOf mroundFrom mouts nm mfromHour mtoHour ns mfrom mto msort misFault mdeep mcoded mlines nl nc nF np ntr nb mbestCost nso nsi nit nsh nsf nss nrc 0 4 (nI jno) (fnw (1424 + 8 * jno + 0)) (fnw (1424 + 8 * jno + 4)) 0 fnrc (by omega) (by omega)) si_X12_372 [0, 4] [1, 2, 3] rfl rfl (by decide) rfl (by decide) (by decide) rfl rfl rfl rfl rfl (Nat.le_of_ble_eq_true rfl) ⟨Nat.le_of_ble_eq_true rfl, Nat.le_of_ble_eq_true rfl⟩ ⟨Nat.le_of_ble_eq_true rfl, Nat.le_of_ble_eq_true rfl⟩ dX12_deal_205 (fun r6456 u6457 H locs hr6456 hP hD hS => ?_)
          obtain ⟨jr16458, ip16459, gtrc6460⟩ := u6457
          try dsimp only at hr6456
          have hP : va_P G.1 vwCl [(nw, .inl (G.2.1, 1662, .inl fnw)), (nsh, .inl (G.2.1, 4, .inl fnsh)), (nsf, .inl (G.2.1, 4, .inl fnsf)), (h0, .inr (12, [.ref nw, .ref nk, .int mhasKept, .ref nt, .int mtaped, .ref nr, .int mrowMany, .int mroundOf, .int mroundFrom, .int mouts, .ref nm, .int mfromHour, .int mtoHour, .ref ns, .int mfrom, .int mto, .int msort, .int misFault, .int mdeep, .int mcoded, .int mlines, .ref nl, .ref nc, .ref nF, .ref np, .ref ntr, .ref nb, .int mbestCost, .ref nso, .ref nsi, .ref nit, .ref nsh, .ref nsf, .ref nss, .ref nrc, .int (nI jr16458), .int 4, .int (nI jno), .int (fnw (1424 + 8 * jno + 0)), .int (fnw (1424 + 8 * jno + 4)), .int ip16459])), (nrc, .inl (G.2.1, 30, .inl gtrc6460))] H := hP
          have hD : va_D A [(nw, .inl (G.2.1, 1662, .inl fnw)), (nsh, .inl (G.2.1, 4, .inl fnsh)), (nsf, .inl (G.2.1, 4, .inl fnsf)), (h0, .inr (12, [.ref nw, .ref nk, .int mhasKept, .ref nt, .int mtaped, .ref nr, .int mrowMany, .int mroundOf, .int mroundFrom, .int mouts, .ref nm, .int mfromHour, .int mtoHour, .ref ns, .int mfrom, .int mto, .int msort, .int misFault, .int mdeep, .int mcoded, .int mlines, .ref nl, .ref nc, .ref nF, .ref np, .ref ntr, .ref nb, .int mbestCost, .ref nso, .ref nsi, .ref nit, .ref nsh, .ref nsf, .ref nss, .ref nrc, .int (nI jr16458), .int 4, .int (nI jno), .int (fnw (1424 + 8 * jno + 0)), .int (fnw (1424 + 8 * jno + 4)), .int ip16459])), (nrc, .inl (G.2.1, 30, .inl gtrc6460))] := hD
          obtain ⟨hr6456, w6461⟩ := hr6456
          refine lv_istore (lv' := [(7, .int r6456), (6, .int 1), (5, .int 0), (4, .int 4), (0, .ref h0), (1, .int (nI jt)), (2, .int 2), (3, .int x3)]) hx hb dX12_deal_208 hl (by decide) rfl (fun ls hl => ?_)
          refine lv_aload_n hx hb dX12_deal_210 rfl (lv_at hl 4 rfl) ?_
          refine gf_X12_380 hC rfl hK hP 3 rfl rfl dX12_deal_211 ?_
          refine lv_if_eq (tgt := 222) hx hb dX12_deal_214 (by decide) (fun c_214_6462 => ?_) (fun c_214_6462 => ?_)
          · refine lv_iload hx hb dX12_deal_222 (lv_at hl 0 rfl) ?_
            exact RI (v := r6456) hC hP hD hS [3, 0, 1, 2, 4] (jr16458, 4, nI jno, fnw (1424 + 8 * jno + 0), fnw (1424 + 8 * jno + 4), ip16459, gtrc6460) rfl rfl (by decide) (⟨trivial, by omega⟩) rfl dX12_deal_224
          · refine lv_bipush (v := (-15)) hx hb dX12_deal_217 (by decide) ?_
            refine lv_goto (tgt := 224) hx hb dX12_deal_219 (by decide) ?_
            exact RI (v := (-15)) hC hP hD hS [3, 0, 1, 2, 4] (jr16458, 4, nI jno, fnw (1424 + 8 * jno + 0), fnw (1424 + 8 * jno + 4), ip16459, gtrc6460) rfl rfl (by decide) (⟨trivial, by omega⟩) rfl dX12_deal_224
        · refine lv_aload_n hx hb dX12_deal_202 rfl (lv_at hl 3 rfl) ?_
          refine lv_iload_n hx hb dX12_deal_203 rfl (lv_at hl 5 rfl) ?_
          refine lv_iload_n hx hb dX12_deal_204 rfl (lv_at hl 6 rfl) ?_
          refine iV (wr := [(nw, .inl (G.2.1, 1662, .inl fnw)), (nsh, .inl (G.2.1, 4, .inl fnsh)), (nsf, .inl (G.2.1, 4, .inl fnsf))]) hC hK hl hP hD hS hA (m_dealt3 l G h0 x3 nw nk mhasKept nt mtaped nr mrowMany mroundOf mroundFrom mouts nm mfromHour mtoHour ns mfrom mto msort misFault mdeep mcoded mlines nl nc nF np ntr nb mbestCost nso nsi nit nsh nsf nss nrc 0 4 (nI jno) (fnw (1424 + 8 * jno + 0)) (fnw (1424 + 8 * jno + 4)) 0 fnrc (by omega) (by omega)) si_X12_372 [0, 4] [1, 2, 3] rfl rfl (by decide) rfl (by decide) (by decide) rfl rfl rfl rfl rfl (Nat.le_of_ble_eq_true rfl) ⟨Nat.le_of_ble_eq_true rfl, Nat.le_of_ble_eq_true rfl⟩ ⟨Nat.le_of_ble_eq_true rfl, Nat.le_of_ble_eq_true rfl⟩ dX12_deal_205 (fun r6463 u6464 H locs hr6463 hP hD hS => ?_)
          obtain ⟨jr16465, ip16466, gtrc6467⟩ := u6464
          try dsimp only at hr6463
          have hP : va_P G.1 vwCl [(nw, .inl (G.2.1, 1662, .inl fnw)), (nsh, .inl (G.2.1, 4, .inl fnsh)), (nsf, .inl (G.2.1, 4, .inl fnsf)), (h0, .inr (12, [.ref nw, .ref nk, .int mhasKept, .ref nt, .int mtaped, .ref nr, .int mrowMany, .int mroundOf, .int mroundFrom, .int mouts, .ref nm, .int mfromHour, .int mtoHour, .ref ns, .int mfrom, .int mto, .int msort, .int misFault, .int mdeep, .int mcoded, .int mlines, .ref nl, .ref nc, .ref nF, .ref np, .ref ntr, .ref nb, .int mbestCost, .ref nso, .ref nsi, .ref nit, .ref nsh, .ref nsf, .ref nss, .ref nrc, .int (nI jr16465), .int 4, .int (nI jno), .int (fnw (1424 + 8 * jno + 0)), .int (fnw (1424 + 8 * jno + 4)), .int ip16466])), (nrc, .inl (G.2.1, 30, .inl gtrc6467))] H := hP
          have hD : va_D A [(nw, .inl (G.2.1, 1662, .inl fnw)), (nsh, .inl (G.2.1, 4, .inl fnsh)), (nsf, .inl (G.2.1, 4, .inl fnsf)), (h0, .inr (12, [.ref nw, .ref nk, .int mhasKept, .ref nt, .int mtaped, .ref nr, .int mrowMany, .int mroundOf, .int mroundFrom, .int mouts, .ref nm, .int mfromHour, .int mtoHour, .ref ns, .int mfrom, .int mto, .int msort, .int misFault, .int mdeep, .int mcoded, .int mlines, .ref nl, .ref nc, .ref nF, .ref np, .ref ntr, .ref nb, .int mbestCost, .ref nso, .ref nsi, .ref nit, .ref nsh, .ref nsf, .ref nss, .ref nrc, .int (nI jr16465), .int 4, .int (nI jno), .int (fnw (1424 + 8 * jno + 0)), .int (fnw (1424 + 8 * jno + 4)), .int ip16466])), (nrc, .inl (G.2.1, 30, .inl gtrc6467))] := hD
          obtain ⟨hr6463, w6468⟩ := hr6463
          refine lv_istore (lv' := [(7, .int r6463), (6, .int 1), (5, .int 0), (4, .int 4), (0, .ref h0), (1, .int (nI jt)), (2, .int 3), (3, .int x3)]) hx hb dX12_deal_208 hl (by decide) rfl (fun ls hl => ?_)
          refine lv_aload_n hx hb dX12_deal_210 rfl (lv_at hl 4 rfl) ?_
          refine gf_X12_380 hC rfl hK hP 3 rfl rfl dX12_deal_211 ?_
          refine lv_if_eq (tgt := 222) hx hb dX12_deal_214 (by decide) (fun c_214_6469 => ?_) (fun c_214_6469 => ?_)
          · refine lv_iload hx hb dX12_deal_222 (lv_at hl 0 rfl) ?_
            exact RI (v := r6463) hC hP hD hS [3, 0, 1, 2, 4] (jr16465, 4, nI jno, fnw (1424 + 8 * jno + 0), fnw (1424 + 8 * jno + 4), ip16466, gtrc6467) rfl rfl (by decide) (⟨trivial, by omega⟩) rfl dX12_deal_224
          · refine lv_bipush (v := (-15)) hx hb dX12_deal_217 (by decide) ?_
            refine lv_goto (tgt := 224) hx hb dX12_deal_219 (by decide) ?_
            exact RI (v := (-15)) hC hP hD hS [3, 0, 1, 2, 4] (jr16465, 4, nI jno, fnw (1424 + 8 * jno + 0), fnw (1424 + 8 * jno + 4), ip16466, gtrc6467) rfl rfl (by decide) (⟨trivial, by omega⟩) rfl dX12_deal_224
      · refine lv_istore (lv' := [(4, .int 5), (0, .ref h0), (1, .int (nI jt)), (2, .int x2), (3, .int x3)]) hx hb dX12_deal_28 hl (by decide) rfl (fun ls hl => ?_)
        refine lv_iload hx hb dX12_deal_30 (lv_at hl 0 rfl) ?_
        refine lv_if_ge (tgt := 37) hx hb dX12_deal_32 (by decide) (fun _ => ?_) (fun c9 => absurd (by decide) c9)
        refine lv_aload_n hx hb dX12_deal_37 rfl (lv_at hl 1 rfl) ?_
        refine lv_iload hx hb dX12_deal_38 (lv_at hl 0 rfl) ?_
        refine pf_X12_354 hC rfl hK hP hD hS 0 (ws' := [(h0, .inr (12, [.ref nw, .ref nk, .int mhasKept, .ref nt, .int mtaped, .ref nr, .int mrowMany, .int mroundOf, .int mroundFrom, .int mouts, .ref nm, .int mfromHour, .int mtoHour, .ref ns, .int mfrom, .int mto, .int msort, .int misFault, .int mdeep, .int mcoded, .int mlines, .ref nl, .ref nc, .ref nF, .ref np, .ref ntr, .ref nb, .int mbestCost, .ref nso, .ref nsi, .ref nit, .ref nsh, .ref nsf, .ref nss, .ref nrc, .int 0, .int 5, .int mnumber, .int mwhose, .int msize, .int misParted])), (nw, .inl (G.2.1, 1662, .inl fnw)), (nsh, .inl (G.2.1, 4, .inl fnsh)), (nsf, .inl (G.2.1, 4, .inl fnsf)), (nrc, .inl (G.2.1, 30, .inl fnrc))]) rfl (Nat.le_of_ble_eq_true rfl) rfl rfl rfl dX12_deal_40 (fun H locs hP hD hS => ?_)
        refine lv_aload_n hx hb dX12_deal_43 rfl (lv_at hl 1 rfl) ?_
        refine lv_aload_n hx hb dX12_deal_44 rfl (lv_at hl 1 rfl) ?_
        refine gf_X12_75 hC rfl hK hP 0 rfl rfl dX12_deal_45 ?_
        refine lv_iload_n hx hb dX12_deal_48 rfl (lv_at hl 2 rfl) ?_
        refine ald hC hK hP 3 rfl (vp_in_nI (by omega) (by omega)) (k := jt) (nI_clamp (by omega)) (v := fnsf jt) rfl dX12_deal_49 ?_
        refine lv_topi (fun x6470 ex6470 => ?_)
        obtain ⟨hko9, jno, hjno, ejno⟩ := a6329
        refine eqi (x1 := nI jno) (ex6470.trans ejno) ?_
        refine pf_X12_378 hC rfl hK hP hD hS 0 (ws' := [(h0, .inr (12, [.ref nw, .ref nk, .int mhasKept, .ref nt, .int mtaped, .ref nr, .int mrowMany, .int mroundOf, .int mroundFrom, .int mouts, .ref nm, .int mfromHour, .int mtoHour, .ref ns, .int mfrom, .int mto, .int msort, .int misFault, .int mdeep, .int mcoded, .int mlines, .ref nl, .ref nc, .ref nF, .ref np, .ref ntr, .ref nb, .int mbestCost, .ref nso, .ref nsi, .ref nit, .ref nsh, .ref nsf, .ref nss, .ref nrc, .int 0, .int 5, .int (nI jno), .int mwhose, .int msize, .int misParted])), (nw, .inl (G.2.1, 1662, .inl fnw)), (nsh, .inl (G.2.1, 4, .inl fnsh)), (nsf, .inl (G.2.1, 4, .inl fnsf)), (nrc, .inl (G.2.1, 30, .inl fnrc))]) rfl (Nat.le_of_ble_eq_true rfl) rfl rfl rfl dX12_deal_50 (fun H locs hP hD hS => ?_)
        refine lv_aload_n hx hb dX12_deal_53 rfl (lv_at hl 1 rfl) ?_
        refine gf_X12_72 hC rfl hK hP 0 rfl rfl dX12_deal_54 ?_
        refine lv_iload_n hx hb dX12_deal_57 rfl (lv_at hl 2 rfl) ?_
        refine ald hC hK hP 2 rfl (vp_in_nI (by omega) (by omega)) (k := jt) (nI_clamp (by omega)) (v := fnsh jt) rfl dX12_deal_58 ?_
        refine lv_topi (fun x6471 ex6471 => ?_)
        refine lv_iconst (v := 1) hx hb dX12_deal_59 (by decide) ?_
        refine lv_icmp_ne (tgt := 67) hx hb dX12_deal_60 (by decide) (fun _ => ?_) (fun c9 => absurd c9 (fun h9 => absurd (hko9.symm.trans ((ex6471.symm).trans h9)) (by decide)))
        refine lv_iconst (v := 0) hx hb dX12_deal_67 (by decide) ?_
        refine lv_istore (lv' := [(5, .int 0), (4, .int 5), (0, .ref h0), (1, .int (nI jt)), (2, .int x2), (3, .int x3)]) hx hb dX12_deal_68 hl (by decide) rfl (fun ls hl => ?_)
        refine lv_aload_n hx hb dX12_deal_70 rfl (lv_at hl 2 rfl) ?_
        refine gf_X12_72 hC rfl hK hP 0 rfl rfl dX12_deal_71 ?_
        refine lv_iload_n hx hb dX12_deal_74 rfl (lv_at hl 3 rfl) ?_
        refine ald hC hK hP 2 rfl (vp_in_nI (by omega) (by omega)) (k := jt) (nI_clamp (by omega)) (v := fnsh jt) rfl dX12_deal_75 ?_
        refine lv_topi (fun x6472 ex6472 => ?_)
        refine lv_iconst (v := 2) hx hb dX12_deal_76 (by decide) ?_
        refine lv_icmp_ne (tgt := 84) hx hb dX12_deal_77 (by decide) (fun c9 => absurd (ex6472.trans hko9) c9) (fun _ => ?_)
        refine lv_iconst (v := 1) hx hb dX12_deal_80 (by decide) ?_
        refine lv_goto (tgt := 85) hx hb dX12_deal_81 (by decide) ?_
        refine lv_istore (lv' := [(6, .int 1), (5, .int 0), (4, .int 5), (0, .ref h0), (1, .int (nI jt)), (2, .int x2), (3, .int x3)]) hx hb dX12_deal_85 hl (by decide) rfl (fun ls hl => ?_)
        refine lv_aload_n hx hb dX12_deal_87 rfl (lv_at hl 3 rfl) ?_
        refine lv_iload hx hb dX12_deal_88 (lv_at hl 1 rfl) ?_
        refine lv_if_eq (tgt := 105) hx hb dX12_deal_90 (by decide) (fun _ => ?_) (fun c9 => absurd (by decide) c9)
        refine lv_iload hx hb dX12_deal_105 (lv_at hl 0 rfl) ?_
        refine lv_if_eq (tgt := 122) hx hb dX12_deal_107 (by decide) (fun c9 => absurd c9 (by decide)) (fun _ => ?_)
        refine lv_aload_n hx hb dX12_deal_110 rfl (lv_at hl 3 rfl) ?_
        refine lv_aload_n hx hb dX12_deal_111 rfl (lv_at hl 3 rfl) ?_
        refine gf_X12_378 hC rfl hK hP 0 rfl rfl dX12_deal_112 ?_
        refine lv_iconst (v := 0) hx hb dX12_deal_115 (by decide) ?_
        refine pV hC hK hl hP hD (m_saying l G h0 jno 0 nw nk mhasKept nt mtaped nr mrowMany mroundOf mroundFrom mouts nm mfromHour mtoHour ns mfrom mto msort misFault mdeep mcoded mlines nl nc nF np ntr nb mbestCost nso nsi nit nsh nsf nss nrc 0 5 (nI jno) mwhose msize misParted fnw (by omega) (by omega)) si_X12_114 [0, 1] rfl rfl (by decide) rfl rfl rfl rfl rfl (Nat.le_of_ble_eq_true rfl) ⟨Nat.le_of_ble_eq_true rfl, Nat.le_of_ble_eq_true rfl⟩ ⟨by first | exact Nat.le_of_ble_eq_true rfl | exact Nat.zero_le _, by first | exact Nat.le_of_ble_eq_true rfl | exact Nat.zero_le _⟩ dX12_deal_116 (fun r6473 hr6473 => ?_)
        obtain rfl := hr6473
        refine lv_goto (tgt := 139) hx hb dX12_deal_119 (by decide) ?_
        refine pf_X12_375 hC rfl hK hP hD hS 0 (ws' := [(h0, .inr (12, [.ref nw, .ref nk, .int mhasKept, .ref nt, .int mtaped, .ref nr, .int mrowMany, .int mroundOf, .int mroundFrom, .int mouts, .ref nm, .int mfromHour, .int mtoHour, .ref ns, .int mfrom, .int mto, .int msort, .int misFault, .int mdeep, .int mcoded, .int mlines, .ref nl, .ref nc, .ref nF, .ref np, .ref ntr, .ref nb, .int mbestCost, .ref nso, .ref nsi, .ref nit, .ref nsh, .ref nsf, .ref nss, .ref nrc, .int 0, .int 5, .int (nI jno), .int (fnw (1424 + 8 * jno + 0)), .int msize, .int misParted])), (nw, .inl (G.2.1, 1662, .inl fnw)), (nsh, .inl (G.2.1, 4, .inl fnsh)), (nsf, .inl (G.2.1, 4, .inl fnsf)), (nrc, .inl (G.2.1, 30, .inl fnrc))]) rfl (Nat.le_of_ble_eq_true rfl) rfl rfl rfl dX12_deal_139 (fun H locs hP hD hS => ?_)
        refine lv_aload_n hx hb dX12_deal_142 rfl (lv_at hl 3 rfl) ?_
        refine lv_iload hx hb dX12_deal_143 (lv_at hl 1 rfl) ?_
        refine lv_if_eq (tgt := 160) hx hb dX12_deal_145 (by decide) (fun _ => ?_) (fun c9 => absurd (by decide) c9)
        refine lv_iload hx hb dX12_deal_160 (lv_at hl 0 rfl) ?_
        refine lv_if_eq (tgt := 177) hx hb dX12_deal_162 (by decide) (fun c9 => absurd c9 (by decide)) (fun _ => ?_)
        refine lv_aload_n hx hb dX12_deal_165 rfl (lv_at hl 3 rfl) ?_
        refine lv_aload_n hx hb dX12_deal_166 rfl (lv_at hl 3 rfl) ?_
        refine gf_X12_378 hC rfl hK hP 0 rfl rfl dX12_deal_167 ?_
        refine lv_iconst (v := 4) hx hb dX12_deal_170 (by decide) ?_
        refine pV hC hK hl hP hD (m_saying l G h0 jno 4 nw nk mhasKept nt mtaped nr mrowMany mroundOf mroundFrom mouts nm mfromHour mtoHour ns mfrom mto msort misFault mdeep mcoded mlines nl nc nF np ntr nb mbestCost nso nsi nit nsh nsf nss nrc 0 5 (nI jno) (fnw (1424 + 8 * jno + 0)) msize misParted fnw (by omega) (by omega)) si_X12_114 [0, 1] rfl rfl (by decide) rfl rfl rfl rfl rfl (Nat.le_of_ble_eq_true rfl) ⟨Nat.le_of_ble_eq_true rfl, Nat.le_of_ble_eq_true rfl⟩ ⟨by first | exact Nat.le_of_ble_eq_true rfl | exact Nat.zero_le _, by first | exact Nat.le_of_ble_eq_true rfl | exact Nat.zero_le _⟩ dX12_deal_171 (fun r6475 hr6475 => ?_)
        obtain rfl := hr6475
        refine lv_goto (tgt := 194) hx hb dX12_deal_174 (by decide) ?_
        refine pf_X12_369 hC rfl hK hP hD hS 0 (ws' := [(h0, .inr (12, [.ref nw, .ref nk, .int mhasKept, .ref nt, .int mtaped, .ref nr, .int mrowMany, .int mroundOf, .int mroundFrom, .int mouts, .ref nm, .int mfromHour, .int mtoHour, .ref ns, .int mfrom, .int mto, .int msort, .int misFault, .int mdeep, .int mcoded, .int mlines, .ref nl, .ref nc, .ref nF, .ref np, .ref ntr, .ref nb, .int mbestCost, .ref nso, .ref nsi, .ref nit, .ref nsh, .ref nsf, .ref nss, .ref nrc, .int 0, .int 5, .int (nI jno), .int (fnw (1424 + 8 * jno + 0)), .int (fnw (1424 + 8 * jno + 4)), .int misParted])), (nw, .inl (G.2.1, 1662, .inl fnw)), (nsh, .inl (G.2.1, 4, .inl fnsh)), (nsf, .inl (G.2.1, 4, .inl fnsf)), (nrc, .inl (G.2.1, 30, .inl fnrc))]) rfl (Nat.le_of_ble_eq_true rfl) rfl rfl rfl dX12_deal_194 (fun H locs hP hD hS => ?_)
        refine lv_aload_n hx hb dX12_deal_197 rfl (lv_at hl 3 rfl) ?_
        refine lv_iconst (v := 0) hx hb dX12_deal_198 (by decide) ?_
        refine pf_X12_380 hC rfl hK hP hD hS 0 (ws' := [(h0, .inr (12, [.ref nw, .ref nk, .int mhasKept, .ref nt, .int mtaped, .ref nr, .int mrowMany, .int mroundOf, .int mroundFrom, .int mouts, .ref nm, .int mfromHour, .int mtoHour, .ref ns, .int mfrom, .int mto, .int msort, .int misFault, .int mdeep, .int mcoded, .int mlines, .ref nl, .ref nc, .ref nF, .ref np, .ref ntr, .ref nb, .int mbestCost, .ref nso, .ref nsi, .ref nit, .ref nsh, .ref nsf, .ref nss, .ref nrc, .int 0, .int 5, .int (nI jno), .int (fnw (1424 + 8 * jno + 0)), .int (fnw (1424 + 8 * jno + 4)), .int 0])), (nw, .inl (G.2.1, 1662, .inl fnw)), (nsh, .inl (G.2.1, 4, .inl fnsh)), (nsf, .inl (G.2.1, 4, .inl fnsf)), (nrc, .inl (G.2.1, 30, .inl fnrc))]) rfl (Nat.le_of_ble_eq_true rfl) rfl (by decide +kernel) (by decide +kernel) dX12_deal_199 (fun H locs hP hD hS => ?_)
        obtain ⟨jdl, hjdl, rfl⟩ := Wi_nat (N := 3) (by decide) a6327
        rcases (show jdl = 0 ∨ jdl = 1 ∨ jdl = 2 ∨ jdl = 3 by omega) with rfl | rfl | rfl | rfl
        · refine lv_aload_n hx hb dX12_deal_202 rfl (lv_at hl 3 rfl) ?_
          refine lv_iload_n hx hb dX12_deal_203 rfl (lv_at hl 5 rfl) ?_
          refine lv_iload_n hx hb dX12_deal_204 rfl (lv_at hl 6 rfl) ?_
          refine iV (wr := [(nw, .inl (G.2.1, 1662, .inl fnw)), (nsh, .inl (G.2.1, 4, .inl fnsh)), (nsf, .inl (G.2.1, 4, .inl fnsf))]) hC hK hl hP hD hS hA (m_dealt0 l G h0 x3 nw nk mhasKept nt mtaped nr mrowMany mroundOf mroundFrom mouts nm mfromHour mtoHour ns mfrom mto msort misFault mdeep mcoded mlines nl nc nF np ntr nb mbestCost nso nsi nit nsh nsf nss nrc 0 5 (nI jno) (fnw (1424 + 8 * jno + 0)) (fnw (1424 + 8 * jno + 4)) 0 fnrc (by omega) (by omega)) si_X12_372 [0, 4] [1, 2, 3] rfl rfl (by decide) rfl (by decide) (by decide) rfl rfl rfl rfl rfl (Nat.le_of_ble_eq_true rfl) ⟨Nat.le_of_ble_eq_true rfl, Nat.le_of_ble_eq_true rfl⟩ ⟨Nat.le_of_ble_eq_true rfl, Nat.le_of_ble_eq_true rfl⟩ dX12_deal_205 (fun r6477 u6478 H locs hr6477 hP hD hS => ?_)
          obtain ⟨jr16479, ip16480, gtrc6481⟩ := u6478
          try dsimp only at hr6477
          have hP : va_P G.1 vwCl [(nw, .inl (G.2.1, 1662, .inl fnw)), (nsh, .inl (G.2.1, 4, .inl fnsh)), (nsf, .inl (G.2.1, 4, .inl fnsf)), (h0, .inr (12, [.ref nw, .ref nk, .int mhasKept, .ref nt, .int mtaped, .ref nr, .int mrowMany, .int mroundOf, .int mroundFrom, .int mouts, .ref nm, .int mfromHour, .int mtoHour, .ref ns, .int mfrom, .int mto, .int msort, .int misFault, .int mdeep, .int mcoded, .int mlines, .ref nl, .ref nc, .ref nF, .ref np, .ref ntr, .ref nb, .int mbestCost, .ref nso, .ref nsi, .ref nit, .ref nsh, .ref nsf, .ref nss, .ref nrc, .int (nI jr16479), .int 5, .int (nI jno), .int (fnw (1424 + 8 * jno + 0)), .int (fnw (1424 + 8 * jno + 4)), .int ip16480])), (nrc, .inl (G.2.1, 30, .inl gtrc6481))] H := hP
          have hD : va_D A [(nw, .inl (G.2.1, 1662, .inl fnw)), (nsh, .inl (G.2.1, 4, .inl fnsh)), (nsf, .inl (G.2.1, 4, .inl fnsf)), (h0, .inr (12, [.ref nw, .ref nk, .int mhasKept, .ref nt, .int mtaped, .ref nr, .int mrowMany, .int mroundOf, .int mroundFrom, .int mouts, .ref nm, .int mfromHour, .int mtoHour, .ref ns, .int mfrom, .int mto, .int msort, .int misFault, .int mdeep, .int mcoded, .int mlines, .ref nl, .ref nc, .ref nF, .ref np, .ref ntr, .ref nb, .int mbestCost, .ref nso, .ref nsi, .ref nit, .ref nsh, .ref nsf, .ref nss, .ref nrc, .int (nI jr16479), .int 5, .int (nI jno), .int (fnw (1424 + 8 * jno + 0)), .int (fnw (1424 + 8 * jno + 4)), .int ip16480])), (nrc, .inl (G.2.1, 30, .inl gtrc6481))] := hD
          obtain ⟨hr6477, w6482⟩ := hr6477
          refine lv_istore (lv' := [(7, .int r6477), (6, .int 1), (5, .int 0), (4, .int 5), (0, .ref h0), (1, .int (nI jt)), (2, .int 0), (3, .int x3)]) hx hb dX12_deal_208 hl (by decide) rfl (fun ls hl => ?_)
          refine lv_aload_n hx hb dX12_deal_210 rfl (lv_at hl 4 rfl) ?_
          refine gf_X12_380 hC rfl hK hP 3 rfl rfl dX12_deal_211 ?_
          refine lv_if_eq (tgt := 222) hx hb dX12_deal_214 (by decide) (fun c_214_6483 => ?_) (fun c_214_6483 => ?_)
          · refine lv_iload hx hb dX12_deal_222 (lv_at hl 0 rfl) ?_
            exact RI (v := r6477) hC hP hD hS [3, 0, 1, 2, 4] (jr16479, 5, nI jno, fnw (1424 + 8 * jno + 0), fnw (1424 + 8 * jno + 4), ip16480, gtrc6481) rfl rfl (by decide) (⟨trivial, by omega⟩) rfl dX12_deal_224
          · refine lv_bipush (v := (-15)) hx hb dX12_deal_217 (by decide) ?_
            refine lv_goto (tgt := 224) hx hb dX12_deal_219 (by decide) ?_
            exact RI (v := (-15)) hC hP hD hS [3, 0, 1, 2, 4] (jr16479, 5, nI jno, fnw (1424 + 8 * jno + 0), fnw (1424 + 8 * jno + 4), ip16480, gtrc6481) rfl rfl (by decide) (⟨trivial, by omega⟩) rfl dX12_deal_224
        · refine lv_aload_n hx hb dX12_deal_202 rfl (lv_at hl 3 rfl) ?_
          refine lv_iload_n hx hb dX12_deal_203 rfl (lv_at hl 5 rfl) ?_
          refine lv_iload_n hx hb dX12_deal_204 rfl (lv_at hl 6 rfl) ?_
          refine iV (wr := [(nw, .inl (G.2.1, 1662, .inl fnw)), (nsh, .inl (G.2.1, 4, .inl fnsh)), (nsf, .inl (G.2.1, 4, .inl fnsf))]) hC hK hl hP hD hS hA (m_dealt1 l G h0 x3 nw nk mhasKept nt mtaped nr mrowMany mroundOf mroundFrom mouts nm mfromHour mtoHour ns mfrom mto msort misFault mdeep mcoded mlines nl nc nF np ntr nb mbestCost nso nsi nit nsh nsf nss nrc 0 5 (nI jno) (fnw (1424 + 8 * jno + 0)) (fnw (1424 + 8 * jno + 4)) 0 fnrc (by omega) (by omega)) si_X12_372 [0, 4] [1, 2, 3] rfl rfl (by decide) rfl (by decide) (by decide) rfl rfl rfl rfl rfl (Nat.le_of_ble_eq_true rfl) ⟨Nat.le_of_ble_eq_true rfl, Nat.le_of_ble_eq_true rfl⟩ ⟨Nat.le_of_ble_eq_true rfl, Nat.le_of_ble_eq_true rfl⟩ dX12_deal_205 (fun r6484 u6485 H locs hr6484 hP hD hS => ?_)
          obtain ⟨jr16486, ip16487, gtrc6488⟩ := u6485
          try dsimp only at hr6484
          have hP : va_P G.1 vwCl [(nw, .inl (G.2.1, 1662, .inl fnw)), (nsh, .inl (G.2.1, 4, .inl fnsh)), (nsf, .inl (G.2.1, 4, .inl fnsf)), (h0, .inr (12, [.ref nw, .ref nk, .int mhasKept, .ref nt, .int mtaped, .ref nr, .int mrowMany, .int mroundOf, .int mroundFrom, .int mouts, .ref nm, .int mfromHour, .int mtoHour, .ref ns, .int mfrom, .int mto, .int msort, .int misFault, .int mdeep, .int mcoded, .int mlines, .ref nl, .ref nc, .ref nF, .ref np, .ref ntr, .ref nb, .int mbestCost, .ref nso, .ref nsi, .ref nit, .ref nsh, .ref nsf, .ref nss, .ref nrc, .int (nI jr16486), .int 5, .int (nI jno), .int (fnw (1424 + 8 * jno + 0)), .int (fnw (1424 + 8 * jno + 4)), .int ip16487])), (nrc, .inl (G.2.1, 30, .inl gtrc6488))] H := hP
          have hD : va_D A [(nw, .inl (G.2.1, 1662, .inl fnw)), (nsh, .inl (G.2.1, 4, .inl fnsh)), (nsf, .inl (G.2.1, 4, .inl fnsf)), (h0, .inr (12, [.ref nw, .ref nk, .int mhasKept, .ref nt, .int mtaped, .ref nr, .int mrowMany, .int mroundOf, .int mroundFrom, .int mouts, .ref nm, .int mfromHour, .int mtoHour, .ref ns, .int mfrom, .int mto, .int msort, .int misFault, .int mdeep, .int mcoded, .int mlines, .ref nl, .ref nc, .ref nF, .ref np, .ref ntr, .ref nb, .int mbestCost, .ref nso, .ref nsi, .ref nit, .ref nsh, .ref nsf, .ref nss, .ref nrc, .int (nI jr16486), .int 5, .int (nI jno), .int (fnw (1424 + 8 * jno + 0)), .int (fnw (1424 + 8 * jno + 4)), .int ip16487])), (nrc, .inl (G.2.1, 30, .inl gtrc6488))] := hD
          obtain ⟨hr6484, w6489⟩ := hr6484
          refine lv_istore (lv' := [(7, .int r6484), (6, .int 1), (5, .int 0), (4, .int 5), (0, .ref h0), (1, .int (nI jt)), (2, .int 1), (3, .int x3)]) hx hb dX12_deal_208 hl (by decide) rfl (fun ls hl => ?_)
          refine lv_aload_n hx hb dX12_deal_210 rfl (lv_at hl 4 rfl) ?_
          refine gf_X12_380 hC rfl hK hP 3 rfl rfl dX12_deal_211 ?_
          refine lv_if_eq (tgt := 222) hx hb dX12_deal_214 (by decide) (fun c_214_6490 => ?_) (fun c_214_6490 => ?_)
          · refine lv_iload hx hb dX12_deal_222 (lv_at hl 0 rfl) ?_
            exact RI (v := r6484) hC hP hD hS [3, 0, 1, 2, 4] (jr16486, 5, nI jno, fnw (1424 + 8 * jno + 0), fnw (1424 + 8 * jno + 4), ip16487, gtrc6488) rfl rfl (by decide) (⟨trivial, by omega⟩) rfl dX12_deal_224
          · refine lv_bipush (v := (-15)) hx hb dX12_deal_217 (by decide) ?_
            refine lv_goto (tgt := 224) hx hb dX12_deal_219 (by decide) ?_
            exact RI (v := (-15)) hC hP hD hS [3, 0, 1, 2, 4] (jr16486, 5, nI jno, fnw (1424 + 8 * jno + 0), fnw (1424 + 8 * jno + 4), ip16487, gtrc6488) rfl rfl (by decide) (⟨trivial, by omega⟩) rfl dX12_deal_224
        · refine lv_aload_n hx hb dX12_deal_202 rfl (lv_at hl 3 rfl) ?_
          refine lv_iload_n hx hb dX12_deal_203 rfl (lv_at hl 5 rfl) ?_
          refine lv_iload_n hx hb dX12_deal_204 rfl (lv_at hl 6 rfl) ?_
          refine iV (wr := [(nw, .inl (G.2.1, 1662, .inl fnw)), (nsh, .inl (G.2.1, 4, .inl fnsh)), (nsf, .inl (G.2.1, 4, .inl fnsf))]) hC hK hl hP hD hS hA (m_dealt2 l G h0 x3 nw nk mhasKept nt mtaped nr mrowMany mroundOf mroundFrom mouts nm mfromHour mtoHour ns mfrom mto msort misFault mdeep mcoded mlines nl nc nF np ntr nb mbestCost nso nsi nit nsh nsf nss nrc 0 5 (nI jno) (fnw (1424 + 8 * jno + 0)) (fnw (1424 + 8 * jno + 4)) 0 fnrc (by omega) (by omega)) si_X12_372 [0, 4] [1, 2, 3] rfl rfl (by decide) rfl (by decide) (by decide) rfl rfl rfl rfl rfl (Nat.le_of_ble_eq_true rfl) ⟨Nat.le_of_ble_eq_true rfl, Nat.le_of_ble_eq_true rfl⟩ ⟨Nat.le_of_ble_eq_true rfl, Nat.le_of_ble_eq_true rfl⟩ dX12_deal_205 (fun r6491 u6492 H locs hr6491 hP hD hS => ?_)
          obtain ⟨jr16493, ip16494, gtrc6495⟩ := u6492
          try dsimp only at hr6491
          have hP : va_P G.1 vwCl [(nw, .inl (G.2.1, 1662, .inl fnw)), (nsh, .inl (G.2.1, 4, .inl fnsh)), (nsf, .inl (G.2.1, 4, .inl fnsf)), (h0, .inr (12, [.ref nw, .ref nk, .int mhasKept, .ref nt, .int mtaped, .ref nr, .int mrowMany, .int mroundOf, .int mroundFrom, .int mouts, .ref nm, .int mfromHour, .int mtoHour, .ref ns, .int mfrom, .int mto, .int msort, .int misFault, .int mdeep, .int mcoded, .int mlines, .ref nl, .ref nc, .ref nF, .ref np, .ref ntr, .ref nb, .int mbestCost, .ref nso, .ref nsi, .ref nit, .ref nsh, .ref nsf, .ref nss, .ref nrc, .int (nI jr16493), .int 5, .int (nI jno), .int (fnw (1424 + 8 * jno + 0)), .int (fnw (1424 + 8 * jno + 4)), .int ip16494])), (nrc, .inl (G.2.1, 30, .inl gtrc6495))] H := hP
          have hD : va_D A [(nw, .inl (G.2.1, 1662, .inl fnw)), (nsh, .inl (G.2.1, 4, .inl fnsh)), (nsf, .inl (G.2.1, 4, .inl fnsf)), (h0, .inr (12, [.ref nw, .ref nk, .int mhasKept, .ref nt, .int mtaped, .ref nr, .int mrowMany, .int mroundOf, .int mroundFrom, .int mouts, .ref nm, .int mfromHour, .int mtoHour, .ref ns, .int mfrom, .int mto, .int msort, .int misFault, .int mdeep, .int mcoded, .int mlines, .ref nl, .ref nc, .ref nF, .ref np, .ref ntr, .ref nb, .int mbestCost, .ref nso, .ref nsi, .ref nit, .ref nsh, .ref nsf, .ref nss, .ref nrc, .int (nI jr16493), .int 5, .int (nI jno), .int (fnw (1424 + 8 * jno + 0)), .int (fnw (1424 + 8 * jno + 4)), .int ip16494])), (nrc, .inl (G.2.1, 30, .inl gtrc6495))] := hD
          obtain ⟨hr6491, w6496⟩ := hr6491
          refine lv_istore (lv' := [(7, .int r6491), (6, .int 1), (5, .int 0), (4, .int 5), (0, .ref h0), (1, .int (nI jt)), (2, .int 2), (3, .int x3)]) hx hb dX12_deal_208 hl (by decide) rfl (fun ls hl => ?_)
          refine lv_aload_n hx hb dX12_deal_210 rfl (lv_at hl 4 rfl) ?_
          refine gf_X12_380 hC rfl hK hP 3 rfl rfl dX12_deal_211 ?_
          refine lv_if_eq (tgt := 222) hx hb dX12_deal_214 (by decide) (fun c_214_6497 => ?_) (fun c_214_6497 => ?_)
          · refine lv_iload hx hb dX12_deal_222 (lv_at hl 0 rfl) ?_
            exact RI (v := r6491) hC hP hD hS [3, 0, 1, 2, 4] (jr16493, 5, nI jno, fnw (1424 + 8 * jno + 0), fnw (1424 + 8 * jno + 4), ip16494, gtrc6495) rfl rfl (by decide) (⟨trivial, by omega⟩) rfl dX12_deal_224
          · refine lv_bipush (v := (-15)) hx hb dX12_deal_217 (by decide) ?_
            refine lv_goto (tgt := 224) hx hb dX12_deal_219 (by decide) ?_
            exact RI (v := (-15)) hC hP hD hS [3, 0, 1, 2, 4] (jr16493, 5, nI jno, fnw (1424 + 8 * jno + 0), fnw (1424 + 8 * jno + 4), ip16494, gtrc6495) rfl rfl (by decide) (⟨trivial, by omega⟩) rfl dX12_deal_224
        · refine lv_aload_n hx hb dX12_deal_202 rfl (lv_at hl 3 rfl) ?_
          refine lv_iload_n hx hb dX12_deal_203 rfl (lv_at hl 5 rfl) ?_
          refine lv_iload_n hx hb dX12_deal_204 rfl (lv_at hl 6 rfl) ?_
          refine iV (wr := [(nw, .inl (G.2.1, 1662, .inl fnw)), (nsh, .inl (G.2.1, 4, .inl fnsh)), (nsf, .inl (G.2.1, 4, .inl fnsf))]) hC hK hl hP hD hS hA (m_dealt3 l G h0 x3 nw nk mhasKept nt mtaped nr mrowMany mroundOf mroundFrom mouts nm mfromHour mtoHour ns mfrom mto msort misFault mdeep mcoded mlines nl nc nF np ntr nb mbestCost nso nsi nit nsh nsf nss nrc 0 5 (nI jno) (fnw (1424 + 8 * jno + 0)) (fnw (1424 + 8 * jno + 4)) 0 fnrc (by omega) (by omega)) si_X12_372 [0, 4] [1, 2, 3] rfl rfl (by decide) rfl (by decide) (by decide) rfl rfl rfl rfl rfl (Nat.le_of_ble_eq_true rfl) ⟨Nat.le_of_ble_eq_true rfl, Nat.le_of_ble_eq_true rfl⟩ ⟨Nat.le_of_ble_eq_true rfl, Nat.le_of_ble_eq_true rfl⟩ dX12_deal_205 (fun r6498 u6499 H locs hr6498 hP hD hS => ?_)
          obtain ⟨jr16500, ip16501, gtrc6502⟩ := u6499
          try dsimp only at hr6498
          have hP : va_P G.1 vwCl [(nw, .inl (G.2.1, 1662, .inl fnw)), (nsh, .inl (G.2.1, 4, .inl fnsh)), (nsf, .inl (G.2.1, 4, .inl fnsf)), (h0, .inr (12, [.ref nw, .ref nk, .int mhasKept, .ref nt, .int mtaped, .ref nr, .int mrowMany, .int mroundOf, .int mroundFrom, .int mouts, .ref nm, .int mfromHour, .int mtoHour, .ref ns, .int mfrom, .int mto, .int msort, .int misFault, .int mdeep, .int mcoded, .int mlines, .ref nl, .ref nc, .ref nF, .ref np, .ref ntr, .ref nb, .int mbestCost, .ref nso, .ref nsi, .ref nit, .ref nsh, .ref nsf, .ref nss, .ref nrc, .int (nI jr16500), .int 5, .int (nI jno), .int (fnw (1424 + 8 * jno + 0)), .int (fnw (1424 + 8 * jno + 4)), .int ip16501])), (nrc, .inl (G.2.1, 30, .inl gtrc6502))] H := hP
          have hD : va_D A [(nw, .inl (G.2.1, 1662, .inl fnw)), (nsh, .inl (G.2.1, 4, .inl fnsh)), (nsf, .inl (G.2.1, 4, .inl fnsf)), (h0, .inr (12, [.ref nw, .ref nk, .int mhasKept, .ref nt, .int mtaped, .ref nr, .int mrowMany, .int mroundOf, .int mroundFrom, .int mouts, .ref nm, .int mfromHour, .int mtoHour, .ref ns, .int mfrom, .int mto, .int msort, .int misFault, .int mdeep, .int mcoded, .int mlines, .ref nl, .ref nc, .ref nF, .ref np, .ref ntr, .ref nb, .int mbestCost, .ref nso, .ref nsi, .ref nit, .ref nsh, .ref nsf, .ref nss, .ref nrc, .int (nI jr16500), .int 5, .int (nI jno), .int (fnw (1424 + 8 * jno + 0)), .int (fnw (1424 + 8 * jno + 4)), .int ip16501])), (nrc, .inl (G.2.1, 30, .inl gtrc6502))] := hD
          obtain ⟨hr6498, w6503⟩ := hr6498
          refine lv_istore (lv' := [(7, .int r6498), (6, .int 1), (5, .int 0), (4, .int 5), (0, .ref h0), (1, .int (nI jt)), (2, .int 3), (3, .int x3)]) hx hb dX12_deal_208 hl (by decide) rfl (fun ls hl => ?_)
          refine lv_aload_n hx hb dX12_deal_210 rfl (lv_at hl 4 rfl) ?_
          refine gf_X12_380 hC rfl hK hP 3 rfl rfl dX12_deal_211 ?_
          refine lv_if_eq (tgt := 222) hx hb dX12_deal_214 (by decide) (fun c_214_6504 => ?_) (fun c_214_6504 => ?_)
          · refine lv_iload hx hb dX12_deal_222 (lv_at hl 0 rfl) ?_
            exact RI (v := r6498) hC hP hD hS [3, 0, 1, 2, 4] (jr16500, 5, nI jno, fnw (1424 + 8 * jno + 0), fnw (1424 + 8 * jno + 4), ip16501, gtrc6502) rfl rfl (by decide) (⟨trivial, by omega⟩) rfl dX12_deal_224
          · refine lv_bipush (v := (-15)) hx hb dX12_deal_217 (by decide) ?_
            refine lv_goto (tgt := 224) hx hb dX12_deal_219 (by decide) ?_
            exact RI (v := (-15)) hC hP hD hS [3, 0, 1, 2, 4] (jr16500, 5, nI jno, fnw (1424 + 8 * jno + 0), fnw (1424 + 8 * jno + 4), ip16501, gtrc6502) rfl rfl (by decide) (⟨trivial, by omega⟩) rfl dX12_deal_224
      · refine lv_istore (lv' := [(4, .int 6), (0, .ref h0), (1, .int (nI jt)), (2, .int x2), (3, .int x3)]) hx hb dX12_deal_28 hl (by decide) rfl (fun ls hl => ?_)
        refine lv_iload hx hb dX12_deal_30 (lv_at hl 0 rfl) ?_
        refine lv_if_ge (tgt := 37) hx hb dX12_deal_32 (by decide) (fun _ => ?_) (fun c9 => absurd (by decide) c9)
        refine lv_aload_n hx hb dX12_deal_37 rfl (lv_at hl 1 rfl) ?_
        refine lv_iload hx hb dX12_deal_38 (lv_at hl 0 rfl) ?_
        refine pf_X12_354 hC rfl hK hP hD hS 0 (ws' := [(h0, .inr (12, [.ref nw, .ref nk, .int mhasKept, .ref nt, .int mtaped, .ref nr, .int mrowMany, .int mroundOf, .int mroundFrom, .int mouts, .ref nm, .int mfromHour, .int mtoHour, .ref ns, .int mfrom, .int mto, .int msort, .int misFault, .int mdeep, .int mcoded, .int mlines, .ref nl, .ref nc, .ref nF, .ref np, .ref ntr, .ref nb, .int mbestCost, .ref nso, .ref nsi, .ref nit, .ref nsh, .ref nsf, .ref nss, .ref nrc, .int 0, .int 6, .int mnumber, .int mwhose, .int msize, .int misParted])), (nw, .inl (G.2.1, 1662, .inl fnw)), (nsh, .inl (G.2.1, 4, .inl fnsh)), (nsf, .inl (G.2.1, 4, .inl fnsf)), (nrc, .inl (G.2.1, 30, .inl fnrc))]) rfl (Nat.le_of_ble_eq_true rfl) rfl rfl rfl dX12_deal_40 (fun H locs hP hD hS => ?_)
        refine lv_aload_n hx hb dX12_deal_43 rfl (lv_at hl 1 rfl) ?_
        refine lv_aload_n hx hb dX12_deal_44 rfl (lv_at hl 1 rfl) ?_
        refine gf_X12_75 hC rfl hK hP 0 rfl rfl dX12_deal_45 ?_
        refine lv_iload_n hx hb dX12_deal_48 rfl (lv_at hl 2 rfl) ?_
        refine ald hC hK hP 3 rfl (vp_in_nI (by omega) (by omega)) (k := jt) (nI_clamp (by omega)) (v := fnsf jt) rfl dX12_deal_49 ?_
        refine lv_topi (fun x6505 ex6505 => ?_)
        obtain ⟨hko9, jno, hjno, ejno⟩ := a6329
        refine eqi (x1 := nI jno) (ex6505.trans ejno) ?_
        refine pf_X12_378 hC rfl hK hP hD hS 0 (ws' := [(h0, .inr (12, [.ref nw, .ref nk, .int mhasKept, .ref nt, .int mtaped, .ref nr, .int mrowMany, .int mroundOf, .int mroundFrom, .int mouts, .ref nm, .int mfromHour, .int mtoHour, .ref ns, .int mfrom, .int mto, .int msort, .int misFault, .int mdeep, .int mcoded, .int mlines, .ref nl, .ref nc, .ref nF, .ref np, .ref ntr, .ref nb, .int mbestCost, .ref nso, .ref nsi, .ref nit, .ref nsh, .ref nsf, .ref nss, .ref nrc, .int 0, .int 6, .int (nI jno), .int mwhose, .int msize, .int misParted])), (nw, .inl (G.2.1, 1662, .inl fnw)), (nsh, .inl (G.2.1, 4, .inl fnsh)), (nsf, .inl (G.2.1, 4, .inl fnsf)), (nrc, .inl (G.2.1, 30, .inl fnrc))]) rfl (Nat.le_of_ble_eq_true rfl) rfl rfl rfl dX12_deal_50 (fun H locs hP hD hS => ?_)
        refine lv_aload_n hx hb dX12_deal_53 rfl (lv_at hl 1 rfl) ?_
        refine gf_X12_72 hC rfl hK hP 0 rfl rfl dX12_deal_54 ?_
        refine lv_iload_n hx hb dX12_deal_57 rfl (lv_at hl 2 rfl) ?_
        refine ald hC hK hP 2 rfl (vp_in_nI (by omega) (by omega)) (k := jt) (nI_clamp (by omega)) (v := fnsh jt) rfl dX12_deal_58 ?_
        refine lv_topi (fun x6506 ex6506 => ?_)
        refine lv_iconst (v := 1) hx hb dX12_deal_59 (by decide) ?_
        refine lv_icmp_ne (tgt := 67) hx hb dX12_deal_60 (by decide) (fun _ => ?_) (fun c9 => absurd c9 (fun h9 => absurd (hko9.symm.trans ((ex6506.symm).trans h9)) (by decide)))
        refine lv_iconst (v := 0) hx hb dX12_deal_67 (by decide) ?_
        refine lv_istore (lv' := [(5, .int 0), (4, .int 6), (0, .ref h0), (1, .int (nI jt)), (2, .int x2), (3, .int x3)]) hx hb dX12_deal_68 hl (by decide) rfl (fun ls hl => ?_)
        refine lv_aload_n hx hb dX12_deal_70 rfl (lv_at hl 2 rfl) ?_
        refine gf_X12_72 hC rfl hK hP 0 rfl rfl dX12_deal_71 ?_
        refine lv_iload_n hx hb dX12_deal_74 rfl (lv_at hl 3 rfl) ?_
        refine ald hC hK hP 2 rfl (vp_in_nI (by omega) (by omega)) (k := jt) (nI_clamp (by omega)) (v := fnsh jt) rfl dX12_deal_75 ?_
        refine lv_topi (fun x6507 ex6507 => ?_)
        refine lv_iconst (v := 2) hx hb dX12_deal_76 (by decide) ?_
        refine lv_icmp_ne (tgt := 84) hx hb dX12_deal_77 (by decide) (fun _ => ?_) (fun c9 => absurd c9 (fun h9 => absurd (hko9.symm.trans ((ex6507.symm).trans h9)) (by decide)))
        refine lv_iconst (v := 0) hx hb dX12_deal_84 (by decide) ?_
        refine lv_istore (lv' := [(6, .int 0), (5, .int 0), (4, .int 6), (0, .ref h0), (1, .int (nI jt)), (2, .int x2), (3, .int x3)]) hx hb dX12_deal_85 hl (by decide) rfl (fun ls hl => ?_)
        refine lv_aload_n hx hb dX12_deal_87 rfl (lv_at hl 3 rfl) ?_
        refine lv_iload hx hb dX12_deal_88 (lv_at hl 1 rfl) ?_
        refine lv_if_eq (tgt := 105) hx hb dX12_deal_90 (by decide) (fun _ => ?_) (fun c9 => absurd (by decide) c9)
        refine lv_iload hx hb dX12_deal_105 (lv_at hl 0 rfl) ?_
        refine lv_if_eq (tgt := 122) hx hb dX12_deal_107 (by decide) (fun _ => ?_) (fun c9 => absurd (by decide) c9)
        refine lv_aload_n hx hb dX12_deal_122 rfl (lv_at hl 3 rfl) ?_
        refine gf_X12_9 hC rfl hK hP 0 rfl rfl dX12_deal_123 ?_
        refine lv_sipush (v := 1552) hx hb dX12_deal_126 (by decide) ?_
        refine lv_iconst (v := 4) hx hb dX12_deal_129 (by decide) ?_
        refine lv_aload_n hx hb dX12_deal_130 rfl (lv_at hl 3 rfl) ?_
        refine gf_X12_378 hC rfl hK hP 0 rfl rfl dX12_deal_131 ?_
        refine lv_imul hx hb dX12_deal_134 ?_
        refine eqi (x1 := nI (4 * jno)) (nI_mul 4 jno) ?_
        refine lv_iadd hx hb dX12_deal_135 ?_
        refine eqi (x1 := nI (1552 + 4 * jno)) (nI_add 1552 (4 * jno)) ?_
        refine lv_iconst (v := 0) hx hb dX12_deal_136 (by decide) ?_
        refine lv_iadd hx hb dX12_deal_137 ?_
        refine eqi (x1 := nI (1552 + 4 * jno + 0)) (nI_add (1552 + 4 * jno) 0) ?_
        refine ald hC hK hP 1 rfl (vp_in_nI (by omega) (by omega)) (k := (1552 + 4 * jno + 0)) (nI_clamp (by omega)) (v := fnw (1552 + 4 * jno + 0)) rfl dX12_deal_138 ?_
        refine lv_topi (fun x6508 ex6508 => ?_)
        refine pf_X12_375 hC rfl hK hP hD hS 0 (ws' := [(h0, .inr (12, [.ref nw, .ref nk, .int mhasKept, .ref nt, .int mtaped, .ref nr, .int mrowMany, .int mroundOf, .int mroundFrom, .int mouts, .ref nm, .int mfromHour, .int mtoHour, .ref ns, .int mfrom, .int mto, .int msort, .int misFault, .int mdeep, .int mcoded, .int mlines, .ref nl, .ref nc, .ref nF, .ref np, .ref ntr, .ref nb, .int mbestCost, .ref nso, .ref nsi, .ref nit, .ref nsh, .ref nsf, .ref nss, .ref nrc, .int 0, .int 6, .int (nI jno), .int x6508, .int msize, .int misParted])), (nw, .inl (G.2.1, 1662, .inl fnw)), (nsh, .inl (G.2.1, 4, .inl fnsh)), (nsf, .inl (G.2.1, 4, .inl fnsf)), (nrc, .inl (G.2.1, 30, .inl fnrc))]) rfl (Nat.le_of_ble_eq_true rfl) rfl rfl rfl dX12_deal_139 (fun H locs hP hD hS => ?_)
        refine lv_aload_n hx hb dX12_deal_142 rfl (lv_at hl 3 rfl) ?_
        refine lv_iload hx hb dX12_deal_143 (lv_at hl 1 rfl) ?_
        refine lv_if_eq (tgt := 160) hx hb dX12_deal_145 (by decide) (fun _ => ?_) (fun c9 => absurd (by decide) c9)
        refine lv_iload hx hb dX12_deal_160 (lv_at hl 0 rfl) ?_
        refine lv_if_eq (tgt := 177) hx hb dX12_deal_162 (by decide) (fun _ => ?_) (fun c9 => absurd (by decide) c9)
        refine lv_aload_n hx hb dX12_deal_177 rfl (lv_at hl 3 rfl) ?_
        refine gf_X12_9 hC rfl hK hP 0 rfl rfl dX12_deal_178 ?_
        refine lv_sipush (v := 1552) hx hb dX12_deal_181 (by decide) ?_
        refine lv_iconst (v := 4) hx hb dX12_deal_184 (by decide) ?_
        refine lv_aload_n hx hb dX12_deal_185 rfl (lv_at hl 3 rfl) ?_
        refine gf_X12_378 hC rfl hK hP 0 rfl rfl dX12_deal_186 ?_
        refine lv_imul hx hb dX12_deal_189 ?_
        refine eqi (x1 := nI (4 * jno)) (nI_mul 4 jno) ?_
        refine lv_iadd hx hb dX12_deal_190 ?_
        refine eqi (x1 := nI (1552 + 4 * jno)) (nI_add 1552 (4 * jno)) ?_
        refine lv_iconst (v := 2) hx hb dX12_deal_191 (by decide) ?_
        refine lv_iadd hx hb dX12_deal_192 ?_
        refine eqi (x1 := nI (1552 + 4 * jno + 2)) (nI_add (1552 + 4 * jno) 2) ?_
        refine ald hC hK hP 1 rfl (vp_in_nI (by omega) (by omega)) (k := (1552 + 4 * jno + 2)) (nI_clamp (by omega)) (v := fnw (1552 + 4 * jno + 2)) rfl dX12_deal_193 ?_
        refine lv_topi (fun x6509 ex6509 => ?_)
        refine pf_X12_369 hC rfl hK hP hD hS 0 (ws' := [(h0, .inr (12, [.ref nw, .ref nk, .int mhasKept, .ref nt, .int mtaped, .ref nr, .int mrowMany, .int mroundOf, .int mroundFrom, .int mouts, .ref nm, .int mfromHour, .int mtoHour, .ref ns, .int mfrom, .int mto, .int msort, .int misFault, .int mdeep, .int mcoded, .int mlines, .ref nl, .ref nc, .ref nF, .ref np, .ref ntr, .ref nb, .int mbestCost, .ref nso, .ref nsi, .ref nit, .ref nsh, .ref nsf, .ref nss, .ref nrc, .int 0, .int 6, .int (nI jno), .int x6508, .int x6509, .int misParted])), (nw, .inl (G.2.1, 1662, .inl fnw)), (nsh, .inl (G.2.1, 4, .inl fnsh)), (nsf, .inl (G.2.1, 4, .inl fnsf)), (nrc, .inl (G.2.1, 30, .inl fnrc))]) rfl (Nat.le_of_ble_eq_true rfl) rfl rfl rfl dX12_deal_194 (fun H locs hP hD hS => ?_)
        refine lv_aload_n hx hb dX12_deal_197 rfl (lv_at hl 3 rfl) ?_
        refine lv_iconst (v := 0) hx hb dX12_deal_198 (by decide) ?_
        refine pf_X12_380 hC rfl hK hP hD hS 0 (ws' := [(h0, .inr (12, [.ref nw, .ref nk, .int mhasKept, .ref nt, .int mtaped, .ref nr, .int mrowMany, .int mroundOf, .int mroundFrom, .int mouts, .ref nm, .int mfromHour, .int mtoHour, .ref ns, .int mfrom, .int mto, .int msort, .int misFault, .int mdeep, .int mcoded, .int mlines, .ref nl, .ref nc, .ref nF, .ref np, .ref ntr, .ref nb, .int mbestCost, .ref nso, .ref nsi, .ref nit, .ref nsh, .ref nsf, .ref nss, .ref nrc, .int 0, .int 6, .int (nI jno), .int x6508, .int x6509, .int 0])), (nw, .inl (G.2.1, 1662, .inl fnw)), (nsh, .inl (G.2.1, 4, .inl fnsh)), (nsf, .inl (G.2.1, 4, .inl fnsf)), (nrc, .inl (G.2.1, 30, .inl fnrc))]) rfl (Nat.le_of_ble_eq_true rfl) rfl (by decide +kernel) (by decide +kernel) dX12_deal_199 (fun H locs hP hD hS => ?_)
        obtain ⟨jdl, hjdl, rfl⟩ := Wi_nat (N := 3) (by decide) a6327
        rcases (show jdl = 0 ∨ jdl = 1 ∨ jdl = 2 ∨ jdl = 3 by omega) with rfl | rfl | rfl | rfl
        · refine lv_aload_n hx hb dX12_deal_202 rfl (lv_at hl 3 rfl) ?_
          refine lv_iload_n hx hb dX12_deal_203 rfl (lv_at hl 5 rfl) ?_
          refine lv_iload_n hx hb dX12_deal_204 rfl (lv_at hl 6 rfl) ?_
          refine iV (wr := [(nw, .inl (G.2.1, 1662, .inl fnw)), (nsh, .inl (G.2.1, 4, .inl fnsh)), (nsf, .inl (G.2.1, 4, .inl fnsf))]) hC hK hl hP hD hS hA (m_dealt0 l G h0 x3 nw nk mhasKept nt mtaped nr mrowMany mroundOf mroundFrom mouts nm mfromHour mtoHour ns mfrom mto msort misFault mdeep mcoded mlines nl nc nF np ntr nb mbestCost nso nsi nit nsh nsf nss nrc 0 6 (nI jno) x6508 x6509 0 fnrc (by omega) (by omega)) si_X12_372 [0, 4] [1, 2, 3] rfl rfl (by decide) rfl (by decide) (by decide) rfl rfl rfl rfl rfl (Nat.le_of_ble_eq_true rfl) ⟨Nat.le_of_ble_eq_true rfl, Nat.le_of_ble_eq_true rfl⟩ ⟨Nat.le_of_ble_eq_true rfl, Nat.le_of_ble_eq_true rfl⟩ dX12_deal_205 (fun r6510 u6511 H locs hr6510 hP hD hS => ?_)
          obtain ⟨jr16512, ip16513, gtrc6514⟩ := u6511
          try dsimp only at hr6510
          have hP : va_P G.1 vwCl [(nw, .inl (G.2.1, 1662, .inl fnw)), (nsh, .inl (G.2.1, 4, .inl fnsh)), (nsf, .inl (G.2.1, 4, .inl fnsf)), (h0, .inr (12, [.ref nw, .ref nk, .int mhasKept, .ref nt, .int mtaped, .ref nr, .int mrowMany, .int mroundOf, .int mroundFrom, .int mouts, .ref nm, .int mfromHour, .int mtoHour, .ref ns, .int mfrom, .int mto, .int msort, .int misFault, .int mdeep, .int mcoded, .int mlines, .ref nl, .ref nc, .ref nF, .ref np, .ref ntr, .ref nb, .int mbestCost, .ref nso, .ref nsi, .ref nit, .ref nsh, .ref nsf, .ref nss, .ref nrc, .int (nI jr16512), .int 6, .int (nI jno), .int x6508, .int x6509, .int ip16513])), (nrc, .inl (G.2.1, 30, .inl gtrc6514))] H := hP
          have hD : va_D A [(nw, .inl (G.2.1, 1662, .inl fnw)), (nsh, .inl (G.2.1, 4, .inl fnsh)), (nsf, .inl (G.2.1, 4, .inl fnsf)), (h0, .inr (12, [.ref nw, .ref nk, .int mhasKept, .ref nt, .int mtaped, .ref nr, .int mrowMany, .int mroundOf, .int mroundFrom, .int mouts, .ref nm, .int mfromHour, .int mtoHour, .ref ns, .int mfrom, .int mto, .int msort, .int misFault, .int mdeep, .int mcoded, .int mlines, .ref nl, .ref nc, .ref nF, .ref np, .ref ntr, .ref nb, .int mbestCost, .ref nso, .ref nsi, .ref nit, .ref nsh, .ref nsf, .ref nss, .ref nrc, .int (nI jr16512), .int 6, .int (nI jno), .int x6508, .int x6509, .int ip16513])), (nrc, .inl (G.2.1, 30, .inl gtrc6514))] := hD
          obtain ⟨hr6510, w6515⟩ := hr6510
          refine lv_istore (lv' := [(7, .int r6510), (6, .int 0), (5, .int 0), (4, .int 6), (0, .ref h0), (1, .int (nI jt)), (2, .int 0), (3, .int x3)]) hx hb dX12_deal_208 hl (by decide) rfl (fun ls hl => ?_)
          refine lv_aload_n hx hb dX12_deal_210 rfl (lv_at hl 4 rfl) ?_
          refine gf_X12_380 hC rfl hK hP 3 rfl rfl dX12_deal_211 ?_
          refine lv_if_eq (tgt := 222) hx hb dX12_deal_214 (by decide) (fun c_214_6516 => ?_) (fun c_214_6516 => ?_)
          · refine lv_iload hx hb dX12_deal_222 (lv_at hl 0 rfl) ?_
            exact RI (v := r6510) hC hP hD hS [3, 0, 1, 2, 4] (jr16512, 6, nI jno, x6508, x6509, ip16513, gtrc6514) rfl rfl (by decide) (⟨trivial, by omega⟩) rfl dX12_deal_224
          · refine lv_bipush (v := (-15)) hx hb dX12_deal_217 (by decide) ?_
            refine lv_goto (tgt := 224) hx hb dX12_deal_219 (by decide) ?_
            exact RI (v := (-15)) hC hP hD hS [3, 0, 1, 2, 4] (jr16512, 6, nI jno, x6508, x6509, ip16513, gtrc6514) rfl rfl (by decide) (⟨trivial, by omega⟩) rfl dX12_deal_224
        · refine lv_aload_n hx hb dX12_deal_202 rfl (lv_at hl 3 rfl) ?_
          refine lv_iload_n hx hb dX12_deal_203 rfl (lv_at hl 5 rfl) ?_
          refine lv_iload_n hx hb dX12_deal_204 rfl (lv_at hl 6 rfl) ?_
          refine iV (wr := [(nw, .inl (G.2.1, 1662, .inl fnw)), (nsh, .inl (G.2.1, 4, .inl fnsh)), (nsf, .inl (G.2.1, 4, .inl fnsf))]) hC hK hl hP hD hS hA (m_dealt1 l G h0 x3 nw nk mhasKept nt mtaped nr mrowMany mroundOf mroundFrom mouts nm mfromHour mtoHour ns mfrom mto msort misFault mdeep mcoded mlines nl nc nF np ntr nb mbestCost nso nsi nit nsh nsf nss nrc 0 6 (nI jno) x6508 x6509 0 fnrc (by omega) (by omega)) si_X12_372 [0, 4] [1, 2, 3] rfl rfl (by decide) rfl (by decide) (by decide) rfl rfl rfl rfl rfl (Nat.le_of_ble_eq_true rfl) ⟨Nat.le_of_ble_eq_true rfl, Nat.le_of_ble_eq_true rfl⟩ ⟨Nat.le_of_ble_eq_true rfl, Nat.le_of_ble_eq_true rfl⟩ dX12_deal_205 (fun r6517 u6518 H locs hr6517 hP hD hS => ?_)
          obtain ⟨jr16519, ip16520, gtrc6521⟩ := u6518
          try dsimp only at hr6517
          have hP : va_P G.1 vwCl [(nw, .inl (G.2.1, 1662, .inl fnw)), (nsh, .inl (G.2.1, 4, .inl fnsh)), (nsf, .inl (G.2.1, 4, .inl fnsf)), (h0, .inr (12, [.ref nw, .ref nk, .int mhasKept, .ref nt, .int mtaped, .ref nr, .int mrowMany, .int mroundOf, .int mroundFrom, .int mouts, .ref nm, .int mfromHour, .int mtoHour, .ref ns, .int mfrom, .int mto, .int msort, .int misFault, .int mdeep, .int mcoded, .int mlines, .ref nl, .ref nc, .ref nF, .ref np, .ref ntr, .ref nb, .int mbestCost, .ref nso, .ref nsi, .ref nit, .ref nsh, .ref nsf, .ref nss, .ref nrc, .int (nI jr16519), .int 6, .int (nI jno), .int x6508, .int x6509, .int ip16520])), (nrc, .inl (G.2.1, 30, .inl gtrc6521))] H := hP
          have hD : va_D A [(nw, .inl (G.2.1, 1662, .inl fnw)), (nsh, .inl (G.2.1, 4, .inl fnsh)), (nsf, .inl (G.2.1, 4, .inl fnsf)), (h0, .inr (12, [.ref nw, .ref nk, .int mhasKept, .ref nt, .int mtaped, .ref nr, .int mrowMany, .int mroundOf, .int mroundFrom, .int mouts, .ref nm, .int mfromHour, .int mtoHour, .ref ns, .int mfrom, .int mto, .int msort, .int misFault, .int mdeep, .int mcoded, .int mlines, .ref nl, .ref nc, .ref nF, .ref np, .ref ntr, .ref nb, .int mbestCost, .ref nso, .ref nsi, .ref nit, .ref nsh, .ref nsf, .ref nss, .ref nrc, .int (nI jr16519), .int 6, .int (nI jno), .int x6508, .int x6509, .int ip16520])), (nrc, .inl (G.2.1, 30, .inl gtrc6521))] := hD
          obtain ⟨hr6517, w6522⟩ := hr6517
          refine lv_istore (lv' := [(7, .int r6517), (6, .int 0), (5, .int 0), (4, .int 6), (0, .ref h0), (1, .int (nI jt)), (2, .int 1), (3, .int x3)]) hx hb dX12_deal_208 hl (by decide) rfl (fun ls hl => ?_)
          refine lv_aload_n hx hb dX12_deal_210 rfl (lv_at hl 4 rfl) ?_
          refine gf_X12_380 hC rfl hK hP 3 rfl rfl dX12_deal_211 ?_
          refine lv_if_eq (tgt := 222) hx hb dX12_deal_214 (by decide) (fun c_214_6523 => ?_) (fun c_214_6523 => ?_)
          · refine lv_iload hx hb dX12_deal_222 (lv_at hl 0 rfl) ?_
            exact RI (v := r6517) hC hP hD hS [3, 0, 1, 2, 4] (jr16519, 6, nI jno, x6508, x6509, ip16520, gtrc6521) rfl rfl (by decide) (⟨trivial, by omega⟩) rfl dX12_deal_224
          · refine lv_bipush (v := (-15)) hx hb dX12_deal_217 (by decide) ?_
            refine lv_goto (tgt := 224) hx hb dX12_deal_219 (by decide) ?_
            exact RI (v := (-15)) hC hP hD hS [3, 0, 1, 2, 4] (jr16519, 6, nI jno, x6508, x6509, ip16520, gtrc6521) rfl rfl (by decide) (⟨trivial, by omega⟩) rfl dX12_deal_224
        · refine lv_aload_n hx hb dX12_deal_202 rfl (lv_at hl 3 rfl) ?_
          refine lv_iload_n hx hb dX12_deal_203 rfl (lv_at hl 5 rfl) ?_
          refine lv_iload_n hx hb dX12_deal_204 rfl (lv_at hl 6 rfl) ?_
          refine iV (wr := [(nw, .inl (G.2.1, 1662, .inl fnw)), (nsh, .inl (G.2.1, 4, .inl fnsh)), (nsf, .inl (G.2.1, 4, .inl fnsf))]) hC hK hl hP hD hS hA (m_dealt2 l G h0 x3 nw nk mhasKept nt mtaped nr mrowMany mroundOf mroundFrom mouts nm mfromHour mtoHour ns mfrom mto msort misFault mdeep mcoded mlines nl nc nF np ntr nb mbestCost nso nsi nit nsh nsf nss nrc 0 6 (nI jno) x6508 x6509 0 fnrc (by omega) (by omega)) si_X12_372 [0, 4] [1, 2, 3] rfl rfl (by decide) rfl (by decide) (by decide) rfl rfl rfl rfl rfl (Nat.le_of_ble_eq_true rfl) ⟨Nat.le_of_ble_eq_true rfl, Nat.le_of_ble_eq_true rfl⟩ ⟨Nat.le_of_ble_eq_true rfl, Nat.le_of_ble_eq_true rfl⟩ dX12_deal_205 (fun r6524 u6525 H locs hr6524 hP hD hS => ?_)
          obtain ⟨jr16526, ip16527, gtrc6528⟩ := u6525
          try dsimp only at hr6524
          have hP : va_P G.1 vwCl [(nw, .inl (G.2.1, 1662, .inl fnw)), (nsh, .inl (G.2.1, 4, .inl fnsh)), (nsf, .inl (G.2.1, 4, .inl fnsf)), (h0, .inr (12, [.ref nw, .ref nk, .int mhasKept, .ref nt, .int mtaped, .ref nr, .int mrowMany, .int mroundOf, .int mroundFrom, .int mouts, .ref nm, .int mfromHour, .int mtoHour, .ref ns, .int mfrom, .int mto, .int msort, .int misFault, .int mdeep, .int mcoded, .int mlines, .ref nl, .ref nc, .ref nF, .ref np, .ref ntr, .ref nb, .int mbestCost, .ref nso, .ref nsi, .ref nit, .ref nsh, .ref nsf, .ref nss, .ref nrc, .int (nI jr16526), .int 6, .int (nI jno), .int x6508, .int x6509, .int ip16527])), (nrc, .inl (G.2.1, 30, .inl gtrc6528))] H := hP
          have hD : va_D A [(nw, .inl (G.2.1, 1662, .inl fnw)), (nsh, .inl (G.2.1, 4, .inl fnsh)), (nsf, .inl (G.2.1, 4, .inl fnsf)), (h0, .inr (12, [.ref nw, .ref nk, .int mhasKept, .ref nt, .int mtaped, .ref nr, .int mrowMany, .int mroundOf, .int mroundFrom, .int mouts, .ref nm, .int mfromHour, .int mtoHour, .ref ns, .int mfrom, .int mto, .int msort, .int misFault, .int mdeep, .int mcoded, .int mlines, .ref nl, .ref nc, .ref nF, .ref np, .ref ntr, .ref nb, .int mbestCost, .ref nso, .ref nsi, .ref nit, .ref nsh, .ref nsf, .ref nss, .ref nrc, .int (nI jr16526), .int 6, .int (nI jno), .int x6508, .int x6509, .int ip16527])), (nrc, .inl (G.2.1, 30, .inl gtrc6528))] := hD
          obtain ⟨hr6524, w6529⟩ := hr6524
          refine lv_istore (lv' := [(7, .int r6524), (6, .int 0), (5, .int 0), (4, .int 6), (0, .ref h0), (1, .int (nI jt)), (2, .int 2), (3, .int x3)]) hx hb dX12_deal_208 hl (by decide) rfl (fun ls hl => ?_)
          refine lv_aload_n hx hb dX12_deal_210 rfl (lv_at hl 4 rfl) ?_
          refine gf_X12_380 hC rfl hK hP 3 rfl rfl dX12_deal_211 ?_
          refine lv_if_eq (tgt := 222) hx hb dX12_deal_214 (by decide) (fun c_214_6530 => ?_) (fun c_214_6530 => ?_)
          · refine lv_iload hx hb dX12_deal_222 (lv_at hl 0 rfl) ?_
            exact RI (v := r6524) hC hP hD hS [3, 0, 1, 2, 4] (jr16526, 6, nI jno, x6508, x6509, ip16527, gtrc6528) rfl rfl (by decide) (⟨trivial, by omega⟩) rfl dX12_deal_224
          · refine lv_bipush (v := (-15)) hx hb dX12_deal_217 (by decide) ?_
            refine lv_goto (tgt := 224) hx hb dX12_deal_219 (by decide) ?_
            exact RI (v := (-15)) hC hP hD hS [3, 0, 1, 2, 4] (jr16526, 6, nI jno, x6508, x6509, ip16527, gtrc6528) rfl rfl (by decide) (⟨trivial, by omega⟩) rfl dX12_deal_224
        · refine lv_aload_n hx hb dX12_deal_202 rfl (lv_at hl 3 rfl) ?_
          refine lv_iload_n hx hb dX12_deal_203 rfl (lv_at hl 5 rfl) ?_
          refine lv_iload_n hx hb dX12_deal_204 rfl (lv_at hl 6 rfl) ?_
          refine iV (wr := [(nw, .inl (G.2.1, 1662, .inl fnw)), (nsh, .inl (G.2.1, 4, .inl fnsh)), (nsf, .inl (G.2.1, 4, .inl fnsf))]) hC hK hl hP hD hS hA (m_dealt3 l G h0 x3 nw nk mhasKept nt mtaped nr mrowMany mroundOf mroundFrom mouts nm mfromHour mtoHour ns mfrom mto msort misFault mdeep mcoded mlines nl nc nF np ntr nb mbestCost nso nsi nit nsh nsf nss nrc 0 6 (nI jno) x6508 x6509 0 fnrc (by omega) (by omega)) si_X12_372 [0, 4] [1, 2, 3] rfl rfl (by decide) rfl (by decide) (by decide) rfl rfl rfl rfl rfl (Nat.le_of_ble_eq_true rfl) ⟨Nat.le_of_ble_eq_true rfl, Nat.le_of_ble_eq_true rfl⟩ ⟨Nat.le_of_ble_eq_true rfl, Nat.le_of_ble_eq_true rfl⟩ dX12_deal_205 (fun r6531 u6532 H locs hr6531 hP hD hS => ?_)
          obtain ⟨jr16533, ip16534, gtrc6535⟩ := u6532
          try dsimp only at hr6531
          have hP : va_P G.1 vwCl [(nw, .inl (G.2.1, 1662, .inl fnw)), (nsh, .inl (G.2.1, 4, .inl fnsh)), (nsf, .inl (G.2.1, 4, .inl fnsf)), (h0, .inr (12, [.ref nw, .ref nk, .int mhasKept, .ref nt, .int mtaped, .ref nr, .int mrowMany, .int mroundOf, .int mroundFrom, .int mouts, .ref nm, .int mfromHour, .int mtoHour, .ref ns, .int mfrom, .int mto, .int msort, .int misFault, .int mdeep, .int mcoded, .int mlines, .ref nl, .ref nc, .ref nF, .ref np, .ref ntr, .ref nb, .int mbestCost, .ref nso, .ref nsi, .ref nit, .ref nsh, .ref nsf, .ref nss, .ref nrc, .int (nI jr16533), .int 6, .int (nI jno), .int x6508, .int x6509, .int ip16534])), (nrc, .inl (G.2.1, 30, .inl gtrc6535))] H := hP
          have hD : va_D A [(nw, .inl (G.2.1, 1662, .inl fnw)), (nsh, .inl (G.2.1, 4, .inl fnsh)), (nsf, .inl (G.2.1, 4, .inl fnsf)), (h0, .inr (12, [.ref nw, .ref nk, .int mhasKept, .ref nt, .int mtaped, .ref nr, .int mrowMany, .int mroundOf, .int mroundFrom, .int mouts, .ref nm, .int mfromHour, .int mtoHour, .ref ns, .int mfrom, .int mto, .int msort, .int misFault, .int mdeep, .int mcoded, .int mlines, .ref nl, .ref nc, .ref nF, .ref np, .ref ntr, .ref nb, .int mbestCost, .ref nso, .ref nsi, .ref nit, .ref nsh, .ref nsf, .ref nss, .ref nrc, .int (nI jr16533), .int 6, .int (nI jno), .int x6508, .int x6509, .int ip16534])), (nrc, .inl (G.2.1, 30, .inl gtrc6535))] := hD
          obtain ⟨hr6531, w6536⟩ := hr6531
          refine lv_istore (lv' := [(7, .int r6531), (6, .int 0), (5, .int 0), (4, .int 6), (0, .ref h0), (1, .int (nI jt)), (2, .int 3), (3, .int x3)]) hx hb dX12_deal_208 hl (by decide) rfl (fun ls hl => ?_)
          refine lv_aload_n hx hb dX12_deal_210 rfl (lv_at hl 4 rfl) ?_
          refine gf_X12_380 hC rfl hK hP 3 rfl rfl dX12_deal_211 ?_
          refine lv_if_eq (tgt := 222) hx hb dX12_deal_214 (by decide) (fun c_214_6537 => ?_) (fun c_214_6537 => ?_)
          · refine lv_iload hx hb dX12_deal_222 (lv_at hl 0 rfl) ?_
            exact RI (v := r6531) hC hP hD hS [3, 0, 1, 2, 4] (jr16533, 6, nI jno, x6508, x6509, ip16534, gtrc6535) rfl rfl (by decide) (⟨trivial, by omega⟩) rfl dX12_deal_224
          · refine lv_bipush (v := (-15)) hx hb dX12_deal_217 (by decide) ?_
            refine lv_goto (tgt := 224) hx hb dX12_deal_219 (by decide) ?_
            exact RI (v := (-15)) hC hP hD hS [3, 0, 1, 2, 4] (jr16533, 6, nI jno, x6508, x6509, ip16534, gtrc6535) rfl rfl (by decide) (⟨trivial, by omega⟩) rfl dX12_deal_224
    · refine lv_if_ne (tgt := 23) hx hb dX12_deal_16 (by decide) (fun c9 => absurd (by decide) c9) (fun _ => ?_)
      refine lv_iconst (v := (-1)) hx hb dX12_deal_19 (by decide) ?_
      refine lv_goto (tgt := 28) hx hb dX12_deal_20 (by decide) ?_
      refine lv_istore (lv' := [(4, .int (-1)), (0, .ref h0), (1, .int x1), (2, .int x2), (3, .int x3)]) hx hb dX12_deal_28 hl (by decide) rfl (fun ls hl => ?_)
      refine lv_iload hx hb dX12_deal_30 (lv_at hl 0 rfl) ?_
      refine lv_if_ge (tgt := 37) hx hb dX12_deal_32 (by decide) (fun c9 => absurd c9 (by decide)) (fun _ => ?_)
      refine lv_iconst (v := 0) hx hb dX12_deal_35 (by decide) ?_
      exact RI (v := 0) hC hP hD hS [0, 1, 2, 3, 4] (0, mdealer, mnumber, mwhose, msize, misParted, fnrc) rfl rfl (by decide) (⟨trivial, by omega⟩) rfl dX12_deal_36
  · refine lv_if_eq (tgt := 19) hx hb dX12_deal_9 (by decide) (fun _ => ?_) (fun c9 => absurd (by decide) c9)
    refine lv_iconst (v := (-1)) hx hb dX12_deal_19 (by decide) ?_
    refine lv_goto (tgt := 28) hx hb dX12_deal_20 (by decide) ?_
    refine lv_istore (lv' := [(4, .int (-1)), (0, .ref h0), (1, .int x1), (2, .int x2), (3, .int x3)]) hx hb dX12_deal_28 hl (by decide) rfl (fun ls hl => ?_)
    refine lv_iload hx hb dX12_deal_30 (lv_at hl 0 rfl) ?_
    refine lv_if_ge (tgt := 37) hx hb dX12_deal_32 (by decide) (fun c9 => absurd c9 (by decide)) (fun _ => ?_)
    refine lv_iconst (v := 0) hx hb dX12_deal_35 (by decide) ?_
    exact RI (v := 0) hC hP hD hS [0, 1, 2, 3, 4] (0, mdealer, mnumber, mwhose, msize, misParted, fnrc) rfl rfl (by decide) (⟨trivial, by omega⟩) rfl dX12_deal_36
set_option maxHeartbeats 4000000 in
set_option maxRecDepth 100000 in
theorem r_trace (l : Launch) (G : GG) (h0 : Nat) (x1 : Int32) (nw : Nat) (nk : Nat) (mhasKept : Int32) (nt : Nat) (mtaped : Int32) (nr : Nat) (mrowMany : Int32) (mroundOf : Int32) (mroundFrom : Int32) (mouts : Int32) (nm : Nat) (mfromHour : Int32) (mtoHour : Int32) (ns : Nat) (mfrom : Int32) (mto : Int32) (msort : Int32) (misFault : Int32) (mdeep : Int32) (mcoded : Int32) (mlines : Int32) (nl : Nat) (nc : Nat) (nF : Nat) (np : Nat) (ntr : Nat) (nb : Nat) (mbestCost : Int32) (nso : Nat) (nsi : Nat) (nit : Nat) (nsh : Nat) (nsf : Nat) (nss : Nat) (nrc : Nat) (jr : Nat) (mdealer : Int32) (mnumber : Int32) (mwhose : Int32) (msize : Int32) (misParted : Int32) (fnrc : Nat → Int32) (hjr : jr ≤ 30) : MP l G yX12_trace cX12_trace 2 (some .int) 2 [.ref h0, .int x1] [(h0, .inr (12, [.ref nw, .ref nk, .int mhasKept, .ref nt, .int mtaped, .ref nr, .int mrowMany, .int mroundOf, .int mroundFrom, .int mouts, .ref nm, .int mfromHour, .int mtoHour, .ref ns, .int mfrom, .int mto, .int msort, .int misFault, .int mdeep, .int mcoded, .int mlines, .ref nl, .ref nc, .ref nF, .ref np, .ref ntr, .ref nb, .int mbestCost, .ref nso, .ref nsi, .ref nit, .ref nsh, .ref nsf, .ref nss, .ref nrc, .int (nI jr), .int mdealer, .int mnumber, .int mwhose, .int msize, .int misParted])), (nrc, .inl (G.2.1, 30, .inl fnrc))] (fun r : Int32 => True) := by
  refine MP.start (by decide +kernel) (Nat.le_of_ble_eq_true rfl) ?_
  intro p e s m below meth c ls hC hK hP hD hl
  have hl : lv_has ls 2 [(0, .ref h0), (1, .int x1)] := hl
  obtain ⟨hx, hb, hr, hml, hB, hown, hlocks, hnm⟩ := id hC
  refine lv_iload_n hx hb dX12_trace_0 rfl (lv_at hl 1 rfl) ?_
  refine lv_iconst (v := 0) hx hb dX12_trace_1 (by decide) ?_
  refine lv_aload_n hx hb dX12_trace_2 rfl (lv_at hl 0 rfl) ?_
  refine gf_X12_351 hC rfl hK hP 0 rfl rfl dX12_trace_3 ?_
  refine lv_iconst (v := 1) hx hb dX12_trace_6 (by decide) ?_
  refine lv_isub hx hb dX12_trace_7 ?_
  refine eqi (x1 := (nI jr) - 1) (rfl) ?_
  refine pS hC hK hl (m_within l G x1 0 ((nI jr) - 1)) si_X12_84 rfl rfl (Nat.le_of_ble_eq_true rfl) ⟨Nat.le_of_ble_eq_true rfl, Nat.le_of_ble_eq_true rfl⟩ ⟨by first | exact Nat.le_of_ble_eq_true rfl | exact Nat.zero_le _, by first | exact Nat.le_of_ble_eq_true rfl | exact Nat.zero_le _⟩ dX12_trace_8 (fun r6538 hr6538 => ?_)
  rcases hr6538 with ⟨rfl, a6539⟩ | ⟨rfl, a6539⟩
  · refine lv_if_eq (tgt := 23) hx hb dX12_trace_11 (by decide) (fun c9 => absurd c9 (by decide)) (fun _ => ?_)
    obtain ⟨ji, hji, rfl⟩ := Hs_nat (by omega) ((WiHs (by omega)).mp a6539)
    refine lv_aload_n hx hb dX12_trace_14 rfl (lv_at hl 0 rfl) ?_
    refine gf_X12_81 hC rfl hK hP 0 rfl rfl dX12_trace_15 ?_
    refine lv_iload_n hx hb dX12_trace_18 rfl (lv_at hl 1 rfl) ?_
    refine ald hC hK hP 1 rfl (vp_in_nI (by omega) (by omega)) (k := ji) (nI_clamp (by omega)) (v := fnrc ji) rfl dX12_trace_19 ?_
    refine lv_topi (fun x6540 ex6540 => ?_)
    refine lv_goto (tgt := 25) hx hb dX12_trace_20 (by decide) ?_
    exact RP (v := x6540) hC (trivial) rfl dX12_trace_25
  · refine lv_if_eq (tgt := 23) hx hb dX12_trace_11 (by decide) (fun _ => ?_) (fun c9 => absurd (by decide) c9)
    refine lv_bipush (v := (-3)) hx hb dX12_trace_23 (by decide) ?_
    exact RP (v := (-3)) hC (trivial) rfl dX12_trace_25
set_option maxHeartbeats 4000000 in
set_option maxRecDepth 100000 in
theorem r_many (l : Launch) (G : GG) (h0 : Nat) (x1 : Int32) (nw : Nat) (nk : Nat) (mhasKept : Int32) (nt : Nat) (mtaped : Int32) (nr : Nat) (mrowMany : Int32) (mroundOf : Int32) (mroundFrom : Int32) (mouts : Int32) (nm : Nat) (mfromHour : Int32) (mtoHour : Int32) (ns : Nat) (mfrom : Int32) (mto : Int32) (msort : Int32) (misFault : Int32) (mdeep : Int32) (mcoded : Int32) (mlines : Int32) (nl : Nat) (nc : Nat) (nF : Nat) (np : Nat) (ntr : Nat) (nb : Nat) (mbestCost : Int32) (nso : Nat) (nsi : Nat) (nit : Nat) (nsh : Nat) (nsf : Nat) (nss : Nat) (nrc : Nat) (mtraced : Int32) (mdealer : Int32) (mnumber : Int32) (mwhose : Int32) (msize : Int32) (misParted : Int32) (fnw : Nat → Int32) (fnm : Nat → Int32) (fns : Nat → Int32) (fnp : Nat → Int32) (hN : NI fnw) (hV : VI fnw) (hM : MB fnm) : MI l G yX12_many cX12_many 4 (some .int) 10 0 0 [.ref h0, .int x1] [(h0, .inr (12, [.ref nw, .ref nk, .int mhasKept, .ref nt, .int mtaped, .ref nr, .int mrowMany, .int mroundOf, .int mroundFrom, .int mouts, .ref nm, .int mfromHour, .int mtoHour, .ref ns, .int mfrom, .int mto, .int msort, .int misFault, .int mdeep, .int mcoded, .int mlines, .ref nl, .ref nc, .ref nF, .ref np, .ref ntr, .ref nb, .int mbestCost, .ref nso, .ref nsi, .ref nit, .ref nsh, .ref nsf, .ref nss, .ref nrc, .int mtraced, .int mdealer, .int mnumber, .int mwhose, .int msize, .int misParted])), (nw, .inl (G.2.1, 1662, .inl fnw)), (nm, .inl (G.2.1, 36, .inl fnm)), (ns, .inl (G.2.1, 8, .inl fns)), (np, .inl (G.2.1, 100, .inl fnp))] (fun (r : Int32) (u : Int32 × Int32 × (Nat → Int32) × (Nat → Int32) × (Nat → Int32)) => (True) ∧ (MB u.2.2.1)) (fun u : Int32 × Int32 × (Nat → Int32) × (Nat → Int32) × (Nat → Int32) => [(h0, .inr (12, [.ref nw, .ref nk, .int mhasKept, .ref nt, .int mtaped, .ref nr, .int mrowMany, .int mroundOf, .int mroundFrom, .int mouts, .ref nm, .int u.1, .int u.2.1, .ref ns, .int mfrom, .int mto, .int msort, .int misFault, .int mdeep, .int mcoded, .int mlines, .ref nl, .ref nc, .ref nF, .ref np, .ref ntr, .ref nb, .int mbestCost, .ref nso, .ref nsi, .ref nit, .ref nsh, .ref nsf, .ref nss, .ref nrc, .int mtraced, .int mdealer, .int mnumber, .int mwhose, .int msize, .int misParted])), (nw, .inl (G.2.1, 1662, .inl fnw)), (nm, .inl (G.2.1, 36, .inl u.2.2.1)), (ns, .inl (G.2.1, 8, .inl u.2.2.2.1)), (np, .inl (G.2.1, 100, .inl u.2.2.2.2))]) := by
  refine MI.start (by decide +kernel) (Nat.le_of_ble_eq_true rfl) ?_
  intro p e s m below meth c A ls hC hK hP hD hS hA hl
  have hl : lv_has ls 4 [(0, .ref h0), (1, .int x1)] := hl
  obtain ⟨hx, hb, hr, hml, hB, hown, hlocks, hnm⟩ := id hC
  obtain ⟨k9, hk9, ek9⟩ := NI.nat hN (i := 9) (B := 12) (by decide +kernel) (by decide)
  refine lv_iload_n hx hb dX12_many_0 rfl (lv_at hl 1 rfl) ?_
  by_cases c_1_6541 : x1 = 0
  · refine lv_tableIn (tgt := 76) hx hb dX12_many_1 (by rw [c_1_6541]; decide) (by rw [c_1_6541]; decide) (by rw [c_1_6541]; rfl) (by decide) ?_
    refine lv_aload_n hx hb dX12_many_76 rfl (lv_at hl 0 rfl) ?_
    refine gf_X12_9 hC rfl hK hP 0 rfl rfl dX12_many_77 ?_
    refine lv_iconst (v := 0) hx hb dX12_many_80 (by decide) ?_
    refine ald hC hK hP 1 rfl (vin (by decide +kernel)) (k := 0) (by decide +kernel) (v := fnw 0) (rfl) dX12_many_81 ?_
    exact RI (v := fnw 0) hC hP hD hS [0, 1, 2, 3, 4] (mfromHour, mtoHour, fnm, fns, fnp) rfl rfl (by decide) (⟨trivial, by first | assumption | exact hM⟩) rfl dX12_many_82
  by_cases c_1_6542 : x1 = 1
  · refine lv_tableIn (tgt := 83) hx hb dX12_many_1 (by rw [c_1_6542]; decide) (by rw [c_1_6542]; decide) (by rw [c_1_6542]; rfl) (by decide) ?_
    refine lv_aload_n hx hb dX12_many_83 rfl (lv_at hl 0 rfl) ?_
    refine gf_X12_9 hC rfl hK hP 0 rfl rfl dX12_many_84 ?_
    refine lv_iconst (v := 4) hx hb dX12_many_87 (by decide) ?_
    refine ald hC hK hP 1 rfl (vin (by decide +kernel)) (k := 4) (by decide +kernel) (v := fnw 4) (rfl) dX12_many_88 ?_
    exact RI (v := fnw 4) hC hP hD hS [0, 1, 2, 3, 4] (mfromHour, mtoHour, fnm, fns, fnp) rfl rfl (by decide) (⟨trivial, by first | assumption | exact hM⟩) rfl dX12_many_89
  by_cases c_1_6543 : x1 = 2
  · refine lv_tableIn (tgt := 90) hx hb dX12_many_1 (by rw [c_1_6543]; decide) (by rw [c_1_6543]; decide) (by rw [c_1_6543]; rfl) (by decide) ?_
    refine lv_aload_n hx hb dX12_many_90 rfl (lv_at hl 0 rfl) ?_
    refine gf_X12_9 hC rfl hK hP 0 rfl rfl dX12_many_91 ?_
    refine lv_iconst (v := 5) hx hb dX12_many_94 (by decide) ?_
    refine ald hC hK hP 1 rfl (vin (by decide +kernel)) (k := 5) (by decide +kernel) (v := fnw 5) (rfl) dX12_many_95 ?_
    exact RI (v := fnw 5) hC hP hD hS [0, 1, 2, 3, 4] (mfromHour, mtoHour, fnm, fns, fnp) rfl rfl (by decide) (⟨trivial, by first | assumption | exact hM⟩) rfl dX12_many_96
  by_cases c_1_6544 : x1 = 3
  · refine lv_tableIn (tgt := 97) hx hb dX12_many_1 (by rw [c_1_6544]; decide) (by rw [c_1_6544]; decide) (by rw [c_1_6544]; rfl) (by decide) ?_
    refine lv_aload_n hx hb dX12_many_97 rfl (lv_at hl 0 rfl) ?_
    refine pV hC hK hl hP hD (m_inView l G h0 nw nk mhasKept nt mtaped nr mrowMany mroundOf mroundFrom mouts nm mfromHour mtoHour ns mfrom mto msort misFault mdeep mcoded mlines nl nc nF np ntr nb mbestCost nso nsi nit nsh nsf nss nrc mtraced mdealer mnumber mwhose msize misParted fnw (hN)) si_X12_107 [0, 1] rfl rfl (by decide) rfl rfl rfl rfl rfl (Nat.le_of_ble_eq_true rfl) ⟨Nat.le_of_ble_eq_true rfl, Nat.le_of_ble_eq_true rfl⟩ ⟨by first | exact Nat.le_of_ble_eq_true rfl | exact Nat.zero_le _, by first | exact Nat.le_of_ble_eq_true rfl | exact Nat.zero_le _⟩ dX12_many_98 (fun r6545 hr6545 => ?_)
    refine pS hC hK hl (m_bits l G r6545) si_X12_110 rfl rfl (Nat.le_of_ble_eq_true rfl) ⟨Nat.le_of_ble_eq_true rfl, Nat.le_of_ble_eq_true rfl⟩ ⟨by first | exact Nat.le_of_ble_eq_true rfl | exact Nat.zero_le _, by first | exact Nat.le_of_ble_eq_true rfl | exact Nat.zero_le _⟩ dX12_many_101 (fun r6546 hr6546 => ?_)
    exact RI (v := r6546) hC hP hD hS [0, 1, 2, 3, 4] (mfromHour, mtoHour, fnm, fns, fnp) rfl rfl (by decide) (⟨trivial, by first | assumption | exact hM⟩) rfl dX12_many_104
  by_cases c_1_6547 : x1 = 4
  · refine lv_tableIn (tgt := 105) hx hb dX12_many_1 (by rw [c_1_6547]; decide) (by rw [c_1_6547]; decide) (by rw [c_1_6547]; rfl) (by decide) ?_
    refine lv_aload_n hx hb dX12_many_105 rfl (lv_at hl 0 rfl) ?_
    refine gf_X12_9 hC rfl hK hP 0 rfl rfl dX12_many_106 ?_
    refine lv_bipush (v := 6) hx hb dX12_many_109 (by decide) ?_
    refine ald hC hK hP 1 rfl (vin (by decide +kernel)) (k := 6) (by decide +kernel) (v := fnw 6) (rfl) dX12_many_111 ?_
    exact RI (v := fnw 6) hC hP hD hS [0, 1, 2, 3, 4] (mfromHour, mtoHour, fnm, fns, fnp) rfl rfl (by decide) (⟨trivial, by first | assumption | exact hM⟩) rfl dX12_many_112
  by_cases c_1_6548 : x1 = 5
  · refine lv_tableIn (tgt := 113) hx hb dX12_many_1 (by rw [c_1_6548]; decide) (by rw [c_1_6548]; decide) (by rw [c_1_6548]; rfl) (by decide) ?_
    refine lv_aload_n hx hb dX12_many_113 rfl (lv_at hl 0 rfl) ?_
    refine gf_X12_9 hC rfl hK hP 0 rfl rfl dX12_many_114 ?_
    refine lv_bipush (v := 7) hx hb dX12_many_117 (by decide) ?_
    refine ald hC hK hP 1 rfl (vin (by decide +kernel)) (k := 7) (by decide +kernel) (v := fnw 7) (rfl) dX12_many_119 ?_
    exact RI (v := fnw 7) hC hP hD hS [0, 1, 2, 3, 4] (mfromHour, mtoHour, fnm, fns, fnp) rfl rfl (by decide) (⟨trivial, by first | assumption | exact hM⟩) rfl dX12_many_120
  by_cases c_1_6549 : x1 = 6
  · refine lv_tableIn (tgt := 121) hx hb dX12_many_1 (by rw [c_1_6549]; decide) (by rw [c_1_6549]; decide) (by rw [c_1_6549]; rfl) (by decide) ?_
    refine lv_aload_n hx hb dX12_many_121 rfl (lv_at hl 0 rfl) ?_
    refine gf_X12_9 hC rfl hK hP 0 rfl rfl dX12_many_122 ?_
    refine lv_bipush (v := 8) hx hb dX12_many_125 (by decide) ?_
    refine ald hC hK hP 1 rfl (vin (by decide +kernel)) (k := 8) (by decide +kernel) (v := fnw 8) (rfl) dX12_many_127 ?_
    exact RI (v := fnw 8) hC hP hD hS [0, 1, 2, 3, 4] (mfromHour, mtoHour, fnm, fns, fnp) rfl rfl (by decide) (⟨trivial, by first | assumption | exact hM⟩) rfl dX12_many_128
  by_cases c_1_6550 : x1 = 7
  · refine lv_tableIn (tgt := 129) hx hb dX12_many_1 (by rw [c_1_6550]; decide) (by rw [c_1_6550]; decide) (by rw [c_1_6550]; rfl) (by decide) ?_
    refine lv_aload_n hx hb dX12_many_129 rfl (lv_at hl 0 rfl) ?_
    refine lv_iconst (v := (-1)) hx hb dX12_many_130 (by decide) ?_
    refine pV hC hK hl hP hD (m_saidBy l G h0 (-1) nw nk mhasKept nt mtaped nr mrowMany mroundOf mroundFrom mouts nm mfromHour mtoHour ns mfrom mto msort misFault mdeep mcoded mlines nl nc nF np ntr nb mbestCost nso nsi nit nsh nsf nss nrc mtraced mdealer mnumber mwhose msize misParted fnw (hN)) si_X12_127 [0, 1] rfl rfl (by decide) rfl rfl rfl rfl rfl (Nat.le_of_ble_eq_true rfl) ⟨Nat.le_of_ble_eq_true rfl, Nat.le_of_ble_eq_true rfl⟩ ⟨by first | exact Nat.le_of_ble_eq_true rfl | exact Nat.zero_le _, by first | exact Nat.le_of_ble_eq_true rfl | exact Nat.zero_le _⟩ dX12_many_131 (fun r6551 hr6551 => ?_)
    exact RI (v := r6551) hC hP hD hS [0, 1, 2, 3, 4] (mfromHour, mtoHour, fnm, fns, fnp) rfl rfl (by decide) (⟨trivial, by first | assumption | exact hM⟩) rfl dX12_many_134
  by_cases c_1_6552 : x1 = 8
  · refine lv_tableIn (tgt := 135) hx hb dX12_many_1 (by rw [c_1_6552]; decide) (by rw [c_1_6552]; decide) (by rw [c_1_6552]; rfl) (by decide) ?_
    refine lv_aload_n hx hb dX12_many_135 rfl (lv_at hl 0 rfl) ?_
    refine gf_X12_9 hC rfl hK hP 0 rfl rfl dX12_many_136 ?_
    refine lv_bipush (v := 9) hx hb dX12_many_139 (by decide) ?_
    refine ald hC hK hP 1 rfl (vin (by decide +kernel)) (k := 9) (by decide +kernel) (v := nI k9) (ek9) dX12_many_141 ?_
    exact RI (v := nI k9) hC hP hD hS [0, 1, 2, 3, 4] (mfromHour, mtoHour, fnm, fns, fnp) rfl rfl (by decide) (⟨trivial, by first | assumption | exact hM⟩) rfl dX12_many_142
  by_cases c_1_6553 : x1 = 9
  · refine lv_tableIn (tgt := 143) hx hb dX12_many_1 (by rw [c_1_6553]; decide) (by rw [c_1_6553]; decide) (by rw [c_1_6553]; rfl) (by decide) ?_
    refine lv_iconst (v := 0) hx hb dX12_many_143 (by decide) ?_
    refine lv_istore_n (lv' := [(2, .int 0), (0, .ref h0), (1, .int x1)]) hx hb dX12_many_144 rfl hl (by decide) rfl (fun ls hl => ?_)
    refine lv_iconst (v := 0) hx hb dX12_many_145 (by decide) ?_
    refine lv_istore_n (lv' := [(3, .int 0), (2, .int 0), (0, .ref h0), (1, .int x1)]) hx hb dX12_many_146 rfl hl (by decide) rfl (fun ls hl => ?_)
    have keyP : ∀ (nP kP : Nat) (nn : Int32) (vfh : Int32) (vth : Int32) (vA : Nat → Int32) (vS : Nat → Int32) (vR : Nat → Int32) (H : Heap) (locs : List Loc) (ls : Array Slot), kP + nP = k9 → (MB vA) → va_P G.1 vwCl [(h0, .inr (12, [.ref nw, .ref nk, .int mhasKept, .ref nt, .int mtaped, .ref nr, .int mrowMany, .int mroundOf, .int mroundFrom, .int mouts, .ref nm, .int vfh, .int vth, .ref ns, .int mfrom, .int mto, .int msort, .int misFault, .int mdeep, .int mcoded, .int mlines, .ref nl, .ref nc, .ref nF, .ref np, .ref ntr, .ref nb, .int mbestCost, .ref nso, .ref nsi, .ref nit, .ref nsh, .ref nsf, .ref nss, .ref nrc, .int mtraced, .int mdealer, .int mnumber, .int mwhose, .int msize, .int misParted])), (nw, .inl (G.2.1, 1662, .inl fnw)), (nm, .inl (G.2.1, 36, .inl vA)), (ns, .inl (G.2.1, 8, .inl vS)), (np, .inl (G.2.1, 100, .inl vR))] H → va_D A [(h0, .inr (12, [.ref nw, .ref nk, .int mhasKept, .ref nt, .int mtaped, .ref nr, .int mrowMany, .int mroundOf, .int mroundFrom, .int mouts, .ref nm, .int vfh, .int vth, .ref ns, .int mfrom, .int mto, .int msort, .int misFault, .int mdeep, .int mcoded, .int mlines, .ref nl, .ref nc, .ref nF, .ref np, .ref ntr, .ref nb, .int mbestCost, .ref nso, .ref nsi, .ref nit, .ref nsh, .ref nsf, .ref nss, .ref nrc, .int mtraced, .int mdealer, .int mnumber, .int mwhose, .int msize, .int misParted])), (nw, .inl (G.2.1, 1662, .inl fnw)), (nm, .inl (G.2.1, 36, .inl vA)), (ns, .inl (G.2.1, 8, .inl vS)), (np, .inl (G.2.1, 100, .inl vR))] → va_S A s.heap H locs → lv_has ls 4 [(3, .int (nI kP)), (2, .int nn), (0, .ref h0), (1, .int x1)] → W p l e (RM 10 0 0) s m ([.ref h0, .int x1] : List Value).toArray below meth c H locs 0 0 (MQ below (QI G (fun (r : Int32) (u : Int32 × Int32 × (Nat → Int32) × (Nat → Int32) × (Nat → Int32)) => (True) ∧ (MB u.2.2.1)) (fun u : Int32 × Int32 × (Nat → Int32) × (Nat → Int32) × (Nat → Int32) => [(h0, .inr (12, [.ref nw, .ref nk, .int mhasKept, .ref nt, .int mtaped, .ref nr, .int mrowMany, .int mroundOf, .int mroundFrom, .int mouts, .ref nm, .int u.1, .int u.2.1, .ref ns, .int mfrom, .int mto, .int msort, .int misFault, .int mdeep, .int mcoded, .int mlines, .ref nl, .ref nc, .ref nF, .ref np, .ref ntr, .ref nb, .int mbestCost, .ref nso, .ref nsi, .ref nit, .ref nsh, .ref nsf, .ref nss, .ref nrc, .int mtraced, .int mdealer, .int mnumber, .int mwhose, .int msize, .int misParted])), (nw, .inl (G.2.1, 1662, .inl fnw)), (nm, .inl (G.2.1, 36, .inl u.2.2.1)), (ns, .inl (G.2.1, 8, .inl u.2.2.2.1)), (np, .inl (G.2.1, 100, .inl u.2.2.2.2))]) A) ([.ref h0, .int x1] : List Value).toArray s 0 0 A) (F0 m 147 ls []) := by
      intro nP
      induction nP with
      | zero =>
        intro kP nn vfh vth vA vS vR H locs ls hkP hvA hP hD hS hl
        obtain rfl : k9 = kP := by omega
        have hl : lv_has ls 4 [(3, .int (nI k9)), (2, .int nn), (0, .ref h0), (1, .int x1)] := hl
        refine lv_iload_n hx hb dX12_many_147 rfl (lv_at hl 0 rfl) ?_
        refine lv_aload_n hx hb dX12_many_148 rfl (lv_at hl 2 rfl) ?_
        refine gf_X12_9 hC rfl hK hP 0 rfl rfl dX12_many_149 ?_
        refine lv_bipush (v := 9) hx hb dX12_many_152 (by decide) ?_
        refine ald hC hK hP 1 rfl (vin (by decide +kernel)) (k := 9) (by decide +kernel) (v := nI k9) (ek9) dX12_many_154 ?_
        refine lv_icmp_ge (tgt := 180) hx hb dX12_many_155 (by decide) (fun _ => ?_) (fun c9 => absurd (Int32.le_refl _) c9)
        refine lv_iload_n hx hb dX12_many_180 rfl (lv_at hl 1 rfl) ?_
        exact RI (v := nn) hC hP hD hS [0, 1, 2, 3, 4] (vfh, vth, vA, vS, vR) rfl rfl (by decide) (⟨trivial, by first | assumption | exact hM⟩) rfl dX12_many_181
      | succ nP ihP =>
        intro kP nn vfh vth vA vS vR H locs ls hkP hvA hP hD hS hl
        refine lv_iload_n hx hb dX12_many_147 rfl (lv_at hl 0 rfl) ?_
        refine lv_aload_n hx hb dX12_many_148 rfl (lv_at hl 2 rfl) ?_
        refine gf_X12_9 hC rfl hK hP 0 rfl rfl dX12_many_149 ?_
        refine lv_bipush (v := 9) hx hb dX12_many_152 (by decide) ?_
        refine ald hC hK hP 1 rfl (vin (by decide +kernel)) (k := 9) (by decide +kernel) (v := nI k9) (ek9) dX12_many_154 ?_
        refine lv_icmp_ge (tgt := 180) hx hb dX12_many_155 (by decide) (fun c9 => absurd c9 (nI_ge (a := kP) (b := k9) (by omega) (by omega))) (fun _ => ?_)
        refine lv_iload_n hx hb dX12_many_158 rfl (lv_at hl 1 rfl) ?_
        refine lv_aload_n hx hb dX12_many_159 rfl (lv_at hl 2 rfl) ?_
        refine lv_iload_n hx hb dX12_many_160 rfl (lv_at hl 0 rfl) ?_
        refine iV (wr := []) hC hK hl hP hD hS hA (m_stands l G h0 kP nw nk mhasKept nt mtaped nr mrowMany mroundOf mroundFrom mouts nm vfh vth ns mfrom mto msort misFault mdeep mcoded mlines nl nc nF np ntr nb mbestCost nso nsi nit nsh nsf nss nrc mtraced mdealer mnumber mwhose msize misParted fnw vA vS vR (by omega) (hN) (hV) (hvA)) si_X12_305 [0, 1, 2, 3, 4] [] rfl rfl (by decide) rfl (by decide) (by decide) rfl rfl rfl rfl rfl (Nat.le_of_ble_eq_true rfl) ⟨Nat.le_of_ble_eq_true rfl, Nat.le_of_ble_eq_true rfl⟩ ⟨Nat.le_of_ble_eq_true rfl, Nat.le_of_ble_eq_true rfl⟩ dX12_many_161 (fun r6554 u6555 H locs hr6554 hP hD hS => ?_)
        obtain ⟨fh16556, th16557, gnm6558, gns6559, gnp6560⟩ := u6555
        try dsimp only at hr6554
        have hP : va_P G.1 vwCl [(h0, .inr (12, [.ref nw, .ref nk, .int mhasKept, .ref nt, .int mtaped, .ref nr, .int mrowMany, .int mroundOf, .int mroundFrom, .int mouts, .ref nm, .int fh16556, .int th16557, .ref ns, .int mfrom, .int mto, .int msort, .int misFault, .int mdeep, .int mcoded, .int mlines, .ref nl, .ref nc, .ref nF, .ref np, .ref ntr, .ref nb, .int mbestCost, .ref nso, .ref nsi, .ref nit, .ref nsh, .ref nsf, .ref nss, .ref nrc, .int mtraced, .int mdealer, .int mnumber, .int mwhose, .int msize, .int misParted])), (nw, .inl (G.2.1, 1662, .inl fnw)), (nm, .inl (G.2.1, 36, .inl gnm6558)), (ns, .inl (G.2.1, 8, .inl gns6559)), (np, .inl (G.2.1, 100, .inl gnp6560))] H := hP
        have hD : va_D A [(h0, .inr (12, [.ref nw, .ref nk, .int mhasKept, .ref nt, .int mtaped, .ref nr, .int mrowMany, .int mroundOf, .int mroundFrom, .int mouts, .ref nm, .int fh16556, .int th16557, .ref ns, .int mfrom, .int mto, .int msort, .int misFault, .int mdeep, .int mcoded, .int mlines, .ref nl, .ref nc, .ref nF, .ref np, .ref ntr, .ref nb, .int mbestCost, .ref nso, .ref nsi, .ref nit, .ref nsh, .ref nsf, .ref nss, .ref nrc, .int mtraced, .int mdealer, .int mnumber, .int mwhose, .int msize, .int misParted])), (nw, .inl (G.2.1, 1662, .inl fnw)), (nm, .inl (G.2.1, 36, .inl gnm6558)), (ns, .inl (G.2.1, 8, .inl gns6559)), (np, .inl (G.2.1, 100, .inl gnp6560))] := hD
        obtain ⟨hr6554, w6561⟩ := hr6554
        rcases hr6554 with rfl | rfl
        · refine lv_if_eq (tgt := 171) hx hb dX12_many_164 (by decide) (fun c9 => absurd c9 (by decide)) (fun _ => ?_)
          refine lv_iconst (v := 1) hx hb dX12_many_167 (by decide) ?_
          refine lv_goto (tgt := 172) hx hb dX12_many_168 (by decide) ?_
          refine lv_iadd hx hb dX12_many_172 ?_
          refine lv_istore_n (lv' := [(2, .int (nn + 1)), (3, .int (nI kP)), (0, .ref h0), (1, .int x1)]) hx hb dX12_many_173 rfl hl (by decide) rfl (fun ls hl => ?_)
          refine lv_iinc (v := nI (kP + 1)) (lv' := [(3, .int (nI (kP + 1))), (2, .int (nn + 1)), (0, .ref h0), (1, .int x1)]) hx hb dX12_many_174 hl (k := 1) rfl (nI_1 _) (by decide) rfl (fun ls hl => ?_)
          refine lv_goto (tgt := 147) hx hb dX12_many_177 (by decide) ?_
          exact ihP (kP + 1) (nn + 1) fh16556 th16557 gnm6558 gns6559 gnp6560 _ _ _ (by omega) (by first | assumption | exact Or.inl rfl | exact Or.inr rfl) hP hD hS (lv_sub hl [0, 1, 2, 3] rfl)
        · refine lv_if_eq (tgt := 171) hx hb dX12_many_164 (by decide) (fun _ => ?_) (fun c9 => absurd (by decide) c9)
          refine lv_iconst (v := 0) hx hb dX12_many_171 (by decide) ?_
          refine lv_iadd hx hb dX12_many_172 ?_
          refine lv_istore_n (lv' := [(2, .int (nn + 0)), (3, .int (nI kP)), (0, .ref h0), (1, .int x1)]) hx hb dX12_many_173 rfl hl (by decide) rfl (fun ls hl => ?_)
          refine lv_iinc (v := nI (kP + 1)) (lv' := [(3, .int (nI (kP + 1))), (2, .int (nn + 0)), (0, .ref h0), (1, .int x1)]) hx hb dX12_many_174 hl (k := 1) rfl (nI_1 _) (by decide) rfl (fun ls hl => ?_)
          refine lv_goto (tgt := 147) hx hb dX12_many_177 (by decide) ?_
          exact ihP (kP + 1) (nn + 0) fh16556 th16557 gnm6558 gns6559 gnp6560 _ _ _ (by omega) (by first | assumption | exact Or.inl rfl | exact Or.inr rfl) hP hD hS (lv_sub hl [0, 1, 2, 3] rfl)
    exact keyP k9 0 0 mfromHour mtoHour fnm fns fnp _ _ _ (by omega) (by first | assumption | exact Or.inl rfl | exact Or.inr rfl) hP hD hS (lv_sub hl [0, 1, 2, 3] rfl)
  by_cases c_1_6563 : x1 = 10
  · refine lv_tableIn (tgt := 182) hx hb dX12_many_1 (by rw [c_1_6563]; decide) (by rw [c_1_6563]; decide) (by rw [c_1_6563]; rfl) (by decide) ?_
    refine lv_aload_n hx hb dX12_many_182 rfl (lv_at hl 0 rfl) ?_
    refine gf_X12_9 hC rfl hK hP 0 rfl rfl dX12_many_183 ?_
    refine lv_bipush (v := 10) hx hb dX12_many_186 (by decide) ?_
    refine ald hC hK hP 1 rfl (vin (by decide +kernel)) (k := 10) (by decide +kernel) (v := fnw 10) (rfl) dX12_many_188 ?_
    exact RI (v := fnw 10) hC hP hD hS [0, 1, 2, 3, 4] (mfromHour, mtoHour, fnm, fns, fnp) rfl rfl (by decide) (⟨trivial, by first | assumption | exact hM⟩) rfl dX12_many_189
  by_cases c_1_6564 : x1 = 11
  · refine lv_tableIn (tgt := 190) hx hb dX12_many_1 (by rw [c_1_6564]; decide) (by rw [c_1_6564]; decide) (by rw [c_1_6564]; rfl) (by decide) ?_
    refine lv_aload_n hx hb dX12_many_190 rfl (lv_at hl 0 rfl) ?_
    refine gf_X12_9 hC rfl hK hP 0 rfl rfl dX12_many_191 ?_
    refine lv_bipush (v := 11) hx hb dX12_many_194 (by decide) ?_
    refine ald hC hK hP 1 rfl (vin (by decide +kernel)) (k := 11) (by decide +kernel) (v := fnw 11) (rfl) dX12_many_196 ?_
    exact RI (v := fnw 11) hC hP hD hS [0, 1, 2, 3, 4] (mfromHour, mtoHour, fnm, fns, fnp) rfl rfl (by decide) (⟨trivial, by first | assumption | exact hM⟩) rfl dX12_many_197
  by_cases c_1_6565 : x1 = 12
  · refine lv_tableIn (tgt := 198) hx hb dX12_many_1 (by rw [c_1_6565]; decide) (by rw [c_1_6565]; decide) (by rw [c_1_6565]; rfl) (by decide) ?_
    refine lv_aload_n hx hb dX12_many_198 rfl (lv_at hl 0 rfl) ?_
    refine gf_X12_327 hC rfl hK hP 0 rfl rfl dX12_many_199 ?_
    exact RI (v := mrowMany) hC hP hD hS [0, 1, 2, 3, 4] (mfromHour, mtoHour, fnm, fns, fnp) rfl rfl (by decide) (⟨trivial, by first | assumption | exact hM⟩) rfl dX12_many_202
  by_cases c_1_6566 : x1 = 13
  · refine lv_tableIn (tgt := 203) hx hb dX12_many_1 (by rw [c_1_6566]; decide) (by rw [c_1_6566]; decide) (by rw [c_1_6566]; rfl) (by decide) ?_
    refine lv_aload_n hx hb dX12_many_203 rfl (lv_at hl 0 rfl) ?_
    refine gf_X12_206 hC rfl hK hP 0 rfl rfl dX12_many_204 ?_
    exact RI (v := mtaped) hC hP hD hS [0, 1, 2, 3, 4] (mfromHour, mtoHour, fnm, fns, fnp) rfl rfl (by decide) (⟨trivial, by first | assumption | exact hM⟩) rfl dX12_many_207
  by_cases c_1_6567 : x1 = 14
  · refine lv_tableIn (tgt := 208) hx hb dX12_many_1 (by rw [c_1_6567]; decide) (by rw [c_1_6567]; decide) (by rw [c_1_6567]; rfl) (by decide) ?_
    refine lv_aload_n hx hb dX12_many_208 rfl (lv_at hl 0 rfl) ?_
    refine gf_X12_351 hC rfl hK hP 0 rfl rfl dX12_many_209 ?_
    exact RI (v := mtraced) hC hP hD hS [0, 1, 2, 3, 4] (mfromHour, mtoHour, fnm, fns, fnp) rfl rfl (by decide) (⟨trivial, by first | assumption | exact hM⟩) rfl dX12_many_212
  refine lv_tableOut (tgt := 213) hx hb dX12_many_1 (by have q9 := sw_0_14 (x := x1); simp only [c_1_6541, c_1_6542, c_1_6543, c_1_6544, c_1_6547, c_1_6548, c_1_6549, c_1_6550, c_1_6552, c_1_6553, c_1_6563, c_1_6564, c_1_6565, c_1_6566, c_1_6567, not_false_eq_true, true_implies] at q9; exact q9) (by decide) ?_
  refine lv_iconst (v := (-1)) hx hb dX12_many_213 (by decide) ?_
  exact RI (v := (-1)) hC hP hD hS [0, 1, 2, 3, 4] (mfromHour, mtoHour, fnm, fns, fnp) rfl rfl (by decide) (⟨trivial, by first | assumption | exact hM⟩) rfl dX12_many_214
set_option maxHeartbeats 4000000 in
set_option maxRecDepth 100000 in
theorem w_keep (l : Launch) (G : GG) (h0 : Nat) (nw : Nat) (nk : Nat) (mhasKept : Int32) (nt : Nat) (mtaped : Int32) (nr : Nat) (mrowMany : Int32) (mroundOf : Int32) (mroundFrom : Int32) (mouts : Int32) (nm : Nat) (mfromHour : Int32) (mtoHour : Int32) (ns : Nat) (mfrom : Int32) (mto : Int32) (msort : Int32) (misFault : Int32) (mdeep : Int32) (mcoded : Int32) (mlines : Int32) (nl : Nat) (nc : Nat) (nF : Nat) (np : Nat) (ntr : Nat) (nb : Nat) (mbestCost : Int32) (nso : Nat) (nsi : Nat) (nit : Nat) (nsh : Nat) (nsf : Nat) (nss : Nat) (nrc : Nat) (mtraced : Int32) (mdealer : Int32) (mnumber : Int32) (mwhose : Int32) (msize : Int32) (misParted : Int32) (fnw : Nat → Int32) (fnk : Nat → Int32) (hN : NI fnw) (hV : VI fnw) : MI l G yX12_keep cX12_keep 2 (some .int) 1 0 0 [.ref h0] [(h0, .inr (12, [.ref nw, .ref nk, .int mhasKept, .ref nt, .int mtaped, .ref nr, .int mrowMany, .int mroundOf, .int mroundFrom, .int mouts, .ref nm, .int mfromHour, .int mtoHour, .ref ns, .int mfrom, .int mto, .int msort, .int misFault, .int mdeep, .int mcoded, .int mlines, .ref nl, .ref nc, .ref nF, .ref np, .ref ntr, .ref nb, .int mbestCost, .ref nso, .ref nsi, .ref nit, .ref nsh, .ref nsf, .ref nss, .ref nrc, .int mtraced, .int mdealer, .int mnumber, .int mwhose, .int msize, .int misParted])), (nw, .inl (G.2.1, 1662, .inl fnw)), (nk, .inl (G.2.1, 1662, .inl fnk))] (fun (r : Int32) (u : (Nat → Int32)) => (r = 1) ∧ (NI u ∧ VI u ∧ SCX u (fnw 0) (fnw 1) (fnw 2) (fnw 3) (fnw 4) (fnw 5) (fnw 8) (fnw 9) (fnw 10) (fnw 11) ∧ AG 1662 fnw u)) (fun u : (Nat → Int32) => [(h0, .inr (12, [.ref nw, .ref nk, .int 1, .ref nt, .int mtaped, .ref nr, .int mrowMany, .int mroundOf, .int mroundFrom, .int mouts, .ref nm, .int mfromHour, .int mtoHour, .ref ns, .int mfrom, .int mto, .int msort, .int misFault, .int mdeep, .int mcoded, .int mlines, .ref nl, .ref nc, .ref nF, .ref np, .ref ntr, .ref nb, .int mbestCost, .ref nso, .ref nsi, .ref nit, .ref nsh, .ref nsf, .ref nss, .ref nrc, .int mtraced, .int mdealer, .int mnumber, .int mwhose, .int msize, .int misParted])), (nw, .inl (G.2.1, 1662, .inl fnw)), (nk, .inl (G.2.1, 1662, .inl u))]) := by
  refine MI.start (by decide +kernel) (Nat.le_of_ble_eq_true rfl) ?_
  intro p e s m below meth c A ls hC hK hP hD hS hA hl
  have hl : lv_has ls 2 [(0, .ref h0)] := hl
  obtain ⟨hx, hb, hr, hml, hB, hown, hlocks, hnm⟩ := id hC
  refine lv_iconst (v := 0) hx hb dX12_keep_0 (by decide) ?_
  refine lv_istore_n (lv' := [(1, .int 0), (0, .ref h0)]) hx hb dX12_keep_1 rfl hl (by decide) rfl (fun ls hl => ?_)
  have keyP : ∀ (nP kP : Nat) (vK : Nat → Int32) (H : Heap) (locs : List Loc) (ls : Array Slot), kP + nP = 1662 → (AG kP fnw vK) → va_P G.1 vwCl [(h0, .inr (12, [.ref nw, .ref nk, .int mhasKept, .ref nt, .int mtaped, .ref nr, .int mrowMany, .int mroundOf, .int mroundFrom, .int mouts, .ref nm, .int mfromHour, .int mtoHour, .ref ns, .int mfrom, .int mto, .int msort, .int misFault, .int mdeep, .int mcoded, .int mlines, .ref nl, .ref nc, .ref nF, .ref np, .ref ntr, .ref nb, .int mbestCost, .ref nso, .ref nsi, .ref nit, .ref nsh, .ref nsf, .ref nss, .ref nrc, .int mtraced, .int mdealer, .int mnumber, .int mwhose, .int msize, .int misParted])), (nw, .inl (G.2.1, 1662, .inl fnw)), (nk, .inl (G.2.1, 1662, .inl vK))] H → va_D A [(h0, .inr (12, [.ref nw, .ref nk, .int mhasKept, .ref nt, .int mtaped, .ref nr, .int mrowMany, .int mroundOf, .int mroundFrom, .int mouts, .ref nm, .int mfromHour, .int mtoHour, .ref ns, .int mfrom, .int mto, .int msort, .int misFault, .int mdeep, .int mcoded, .int mlines, .ref nl, .ref nc, .ref nF, .ref np, .ref ntr, .ref nb, .int mbestCost, .ref nso, .ref nsi, .ref nit, .ref nsh, .ref nsf, .ref nss, .ref nrc, .int mtraced, .int mdealer, .int mnumber, .int mwhose, .int msize, .int misParted])), (nw, .inl (G.2.1, 1662, .inl fnw)), (nk, .inl (G.2.1, 1662, .inl vK))] → va_S A s.heap H locs → lv_has ls 2 [(1, .int (nI kP)), (0, .ref h0)] → W p l e (RM 1 0 0) s m ([.ref h0] : List Value).toArray below meth c H locs 0 0 (MQ below (QI G (fun (r : Int32) (u : (Nat → Int32)) => (r = 1) ∧ (NI u ∧ VI u ∧ SCX u (fnw 0) (fnw 1) (fnw 2) (fnw 3) (fnw 4) (fnw 5) (fnw 8) (fnw 9) (fnw 10) (fnw 11) ∧ AG 1662 fnw u)) (fun u : (Nat → Int32) => [(h0, .inr (12, [.ref nw, .ref nk, .int 1, .ref nt, .int mtaped, .ref nr, .int mrowMany, .int mroundOf, .int mroundFrom, .int mouts, .ref nm, .int mfromHour, .int mtoHour, .ref ns, .int mfrom, .int mto, .int msort, .int misFault, .int mdeep, .int mcoded, .int mlines, .ref nl, .ref nc, .ref nF, .ref np, .ref ntr, .ref nb, .int mbestCost, .ref nso, .ref nsi, .ref nit, .ref nsh, .ref nsf, .ref nss, .ref nrc, .int mtraced, .int mdealer, .int mnumber, .int mwhose, .int msize, .int misParted])), (nw, .inl (G.2.1, 1662, .inl fnw)), (nk, .inl (G.2.1, 1662, .inl u))]) A) ([.ref h0] : List Value).toArray s 0 0 A) (F0 m 2 ls []) := by
    intro nP
    induction nP with
    | zero =>
      intro kP vK H locs ls hkP hag hP hD hS hl
      obtain rfl : 1662 = kP := by omega
      have hl : lv_has ls 2 [(1, .int 1662), (0, .ref h0)] := hl
      refine lv_iload_n hx hb dX12_keep_2 rfl (lv_at hl 0 rfl) ?_
      refine lv_sipush (v := 1662) hx hb dX12_keep_3 (by decide) ?_
      refine lv_icmp_ge (tgt := 27) hx hb dX12_keep_6 (by decide) (fun _ => ?_) (fun c9 => absurd (by decide) c9)
      refine lv_aload_n hx hb dX12_keep_27 rfl (lv_at hl 1 rfl) ?_
      refine lv_iconst (v := 1) hx hb dX12_keep_28 (by decide) ?_
      refine pf_X12_383 hC rfl hK hP hD hS 0 (ws' := [(h0, .inr (12, [.ref nw, .ref nk, .int 1, .ref nt, .int mtaped, .ref nr, .int mrowMany, .int mroundOf, .int mroundFrom, .int mouts, .ref nm, .int mfromHour, .int mtoHour, .ref ns, .int mfrom, .int mto, .int msort, .int misFault, .int mdeep, .int mcoded, .int mlines, .ref nl, .ref nc, .ref nF, .ref np, .ref ntr, .ref nb, .int mbestCost, .ref nso, .ref nsi, .ref nit, .ref nsh, .ref nsf, .ref nss, .ref nrc, .int mtraced, .int mdealer, .int mnumber, .int mwhose, .int msize, .int misParted])), (nw, .inl (G.2.1, 1662, .inl fnw)), (nk, .inl (G.2.1, 1662, .inl vK))]) rfl (Nat.le_of_ble_eq_true rfl) rfl (by decide +kernel) (by decide +kernel) dX12_keep_29 (fun H locs hP hD hS => ?_)
      refine lv_iconst (v := 1) hx hb dX12_keep_32 (by decide) ?_
      exact RI (v := 1) hC hP hD hS [0, 1, 2] vK rfl rfl (by decide) (⟨rfl, ⟨AG.NI hag hN, AG.VI hag hV, AG.SC hag, hag⟩⟩) rfl dX12_keep_33
    | succ nP ihP =>
      intro kP vK H locs ls hkP hag hP hD hS hl
      refine lv_iload_n hx hb dX12_keep_2 rfl (lv_at hl 0 rfl) ?_
      refine lv_sipush (v := 1662) hx hb dX12_keep_3 (by decide) ?_
      refine lv_icmp_ge (tgt := 27) hx hb dX12_keep_6 (by decide) (fun c9 => absurd c9 (nI_ge (a := kP) (b := 1662) (by omega) (by omega))) (fun _ => ?_)
      refine lv_aload_n hx hb dX12_keep_9 rfl (lv_at hl 1 rfl) ?_
      refine gf_X12_13 hC rfl hK hP 0 rfl rfl dX12_keep_10 ?_
      refine lv_iload_n hx hb dX12_keep_13 rfl (lv_at hl 0 rfl) ?_
      refine lv_aload_n hx hb dX12_keep_14 rfl (lv_at hl 1 rfl) ?_
      refine gf_X12_9 hC rfl hK hP 0 rfl rfl dX12_keep_15 ?_
      refine lv_iload_n hx hb dX12_keep_18 rfl (lv_at hl 0 rfl) ?_
      refine ald hC hK hP 1 rfl (vp_in_nI (by omega) (by omega)) (k := kP) (nI_clamp (by omega)) (v := fnw kP) rfl dX12_keep_19 ?_
      refine lv_topi (fun x6568 ex6568 => ?_)
      refine ast hC hK hP hD hS 2 (ws' := [(h0, .inr (12, [.ref nw, .ref nk, .int mhasKept, .ref nt, .int mtaped, .ref nr, .int mrowMany, .int mroundOf, .int mroundFrom, .int mouts, .ref nm, .int mfromHour, .int mtoHour, .ref ns, .int mfrom, .int mto, .int msort, .int misFault, .int mdeep, .int mcoded, .int mlines, .ref nl, .ref nc, .ref nF, .ref np, .ref ntr, .ref nb, .int mbestCost, .ref nso, .ref nsi, .ref nit, .ref nsh, .ref nsf, .ref nss, .ref nrc, .int mtraced, .int mdealer, .int mnumber, .int mwhose, .int msize, .int misParted])), (nw, .inl (G.2.1, 1662, .inl fnw)), (nk, .inl (G.2.1, 1662, .inl (upd vK kP x6568)))]) rfl (vp_in_nI (by omega) (by omega)) (k := kP) (nI_clamp (by omega)) (rfl) dX12_keep_20 (fun H locs hP hD hS => ?_)
      refine lv_iinc (v := nI (kP + 1)) (lv' := [(1, .int (nI (kP + 1))), (0, .ref h0)]) hx hb dX12_keep_21 hl (k := 0) rfl (nI_1 _) (by decide) rfl (fun ls hl => ?_)
      refine lv_goto (tgt := 2) hx hb dX12_keep_24 (by decide) ?_
      exact ihP (kP + 1) (upd vK kP x6568) _ _ _ (by omega) (by first | assumption | exact Or.inl rfl | exact Or.inr rfl | exact AG.zero | exact AG.next (by assumption) (by assumption)) hP hD hS (lv_sub hl [0, 1] rfl)
  exact keyP 1662 0 fnk _ _ _ (by omega) (by first | assumption | exact Or.inl rfl | exact Or.inr rfl | exact AG.zero | exact AG.next (by assumption) (by assumption)) hP hD hS (lv_sub hl [0, 1] rfl)
set_option maxHeartbeats 4000000 in
set_option maxRecDepth 100000 in
theorem w_again0 (l : Launch) (G : GG) (h0 : Nat) (nw : Nat) (nk : Nat) (nt : Nat) (mtaped : Int32) (nr : Nat) (mrowMany : Int32) (mroundOf : Int32) (mroundFrom : Int32) (mouts : Int32) (nm : Nat) (mfromHour : Int32) (mtoHour : Int32) (ns : Nat) (mfrom : Int32) (mto : Int32) (msort : Int32) (misFault : Int32) (mdeep : Int32) (mcoded : Int32) (mlines : Int32) (nl : Nat) (nc : Nat) (nF : Nat) (np : Nat) (ntr : Nat) (nb : Nat) (mbestCost : Int32) (nso : Nat) (nsi : Nat) (nit : Nat) (nsh : Nat) (nsf : Nat) (nss : Nat) (nrc : Nat) (mtraced : Int32) (mdealer : Int32) (mnumber : Int32) (mwhose : Int32) (msize : Int32) (misParted : Int32) : MP l G yX12_again cX12_again 2 (some .int) 1 [.ref h0] [(h0, .inr (12, [.ref nw, .ref nk, .int 0, .ref nt, .int mtaped, .ref nr, .int mrowMany, .int mroundOf, .int mroundFrom, .int mouts, .ref nm, .int mfromHour, .int mtoHour, .ref ns, .int mfrom, .int mto, .int msort, .int misFault, .int mdeep, .int mcoded, .int mlines, .ref nl, .ref nc, .ref nF, .ref np, .ref ntr, .ref nb, .int mbestCost, .ref nso, .ref nsi, .ref nit, .ref nsh, .ref nsf, .ref nss, .ref nrc, .int mtraced, .int mdealer, .int mnumber, .int mwhose, .int msize, .int misParted]))] (fun r : Int32 => r = (-3)) := by
  refine MP.start (by decide +kernel) (Nat.le_of_ble_eq_true rfl) ?_
  intro p e s m below meth c ls hC hK hP hD hl
  have hl : lv_has ls 2 [(0, .ref h0)] := hl
  obtain ⟨hx, hb, hr, hml, hB, hown, hlocks, hnm⟩ := id hC
  refine lv_aload_n hx hb dX12_again_0 rfl (lv_at hl 0 rfl) ?_
  refine gf_X12_383 hC rfl hK hP 0 rfl rfl dX12_again_1 ?_
  refine lv_if_ne (tgt := 10) hx hb dX12_again_4 (by decide) (fun c9 => absurd (by decide) c9) (fun _ => ?_)
  refine lv_bipush (v := (-3)) hx hb dX12_again_7 (by decide) ?_
  exact RP (v := (-3)) hC (rfl) rfl dX12_again_9
set_option maxHeartbeats 4000000 in
set_option maxRecDepth 100000 in
theorem w_again1 (l : Launch) (G : GG) (h0 : Nat) (nw : Nat) (nk : Nat) (nt : Nat) (mtaped : Int32) (nr : Nat) (mrowMany : Int32) (mroundOf : Int32) (mroundFrom : Int32) (mouts : Int32) (nm : Nat) (mfromHour : Int32) (mtoHour : Int32) (ns : Nat) (mfrom : Int32) (mto : Int32) (msort : Int32) (misFault : Int32) (mdeep : Int32) (mcoded : Int32) (mlines : Int32) (nl : Nat) (nc : Nat) (nF : Nat) (np : Nat) (ntr : Nat) (nb : Nat) (mbestCost : Int32) (nso : Nat) (nsi : Nat) (nit : Nat) (nsh : Nat) (nsf : Nat) (nss : Nat) (nrc : Nat) (mtraced : Int32) (mdealer : Int32) (mnumber : Int32) (mwhose : Int32) (msize : Int32) (misParted : Int32) (fnw : Nat → Int32) (fnk : Nat → Int32) (hN : NI fnw) (hV : VI fnw) (hNk : NI fnk) (hVk : VI fnk) : MI l G yX12_again cX12_again 2 (some .int) 1 0 0 [.ref h0] [(h0, .inr (12, [.ref nw, .ref nk, .int 1, .ref nt, .int mtaped, .ref nr, .int mrowMany, .int mroundOf, .int mroundFrom, .int mouts, .ref nm, .int mfromHour, .int mtoHour, .ref ns, .int mfrom, .int mto, .int msort, .int misFault, .int mdeep, .int mcoded, .int mlines, .ref nl, .ref nc, .ref nF, .ref np, .ref ntr, .ref nb, .int mbestCost, .ref nso, .ref nsi, .ref nit, .ref nsh, .ref nsf, .ref nss, .ref nrc, .int mtraced, .int mdealer, .int mnumber, .int mwhose, .int msize, .int misParted])), (nw, .inl (G.2.1, 1662, .inl fnw)), (nk, .inl (G.2.1, 1662, .inl fnk))] (fun (r : Int32) (u : (Nat → Int32)) => (r = 1) ∧ (NI u ∧ VI u ∧ SCX u (fnk 0) (fnk 1) (fnk 2) (fnk 3) (fnk 4) (fnk 5) (fnk 8) (fnk 9) (fnk 10) (fnk 11) ∧ AG 1662 fnk u)) (fun u : (Nat → Int32) => [(h0, .inr (12, [.ref nw, .ref nk, .int 1, .ref nt, .int mtaped, .ref nr, .int mrowMany, .int mroundOf, .int mroundFrom, .int mouts, .ref nm, .int mfromHour, .int mtoHour, .ref ns, .int mfrom, .int mto, .int msort, .int misFault, .int mdeep, .int mcoded, .int mlines, .ref nl, .ref nc, .ref nF, .ref np, .ref ntr, .ref nb, .int mbestCost, .ref nso, .ref nsi, .ref nit, .ref nsh, .ref nsf, .ref nss, .ref nrc, .int mtraced, .int mdealer, .int mnumber, .int mwhose, .int msize, .int misParted])), (nw, .inl (G.2.1, 1662, .inl u)), (nk, .inl (G.2.1, 1662, .inl fnk))]) := by
  refine MI.start (by decide +kernel) (Nat.le_of_ble_eq_true rfl) ?_
  intro p e s m below meth c A ls hC hK hP hD hS hA hl
  have hl : lv_has ls 2 [(0, .ref h0)] := hl
  obtain ⟨hx, hb, hr, hml, hB, hown, hlocks, hnm⟩ := id hC
  refine lv_aload_n hx hb dX12_again_0 rfl (lv_at hl 0 rfl) ?_
  refine gf_X12_383 hC rfl hK hP 0 rfl rfl dX12_again_1 ?_
  refine lv_if_ne (tgt := 10) hx hb dX12_again_4 (by decide) (fun _ => ?_) (fun c9 => absurd c9 (by decide))
  refine lv_iconst (v := 0) hx hb dX12_again_10 (by decide) ?_
  refine lv_istore_n (lv' := [(1, .int 0), (0, .ref h0)]) hx hb dX12_again_11 rfl hl (by decide) rfl (fun ls hl => ?_)
  have keyP : ∀ (nP kP : Nat) (vK : Nat → Int32) (H : Heap) (locs : List Loc) (ls : Array Slot), kP + nP = 1662 → (AG kP fnk vK) → va_P G.1 vwCl [(h0, .inr (12, [.ref nw, .ref nk, .int 1, .ref nt, .int mtaped, .ref nr, .int mrowMany, .int mroundOf, .int mroundFrom, .int mouts, .ref nm, .int mfromHour, .int mtoHour, .ref ns, .int mfrom, .int mto, .int msort, .int misFault, .int mdeep, .int mcoded, .int mlines, .ref nl, .ref nc, .ref nF, .ref np, .ref ntr, .ref nb, .int mbestCost, .ref nso, .ref nsi, .ref nit, .ref nsh, .ref nsf, .ref nss, .ref nrc, .int mtraced, .int mdealer, .int mnumber, .int mwhose, .int msize, .int misParted])), (nw, .inl (G.2.1, 1662, .inl vK)), (nk, .inl (G.2.1, 1662, .inl fnk))] H → va_D A [(h0, .inr (12, [.ref nw, .ref nk, .int 1, .ref nt, .int mtaped, .ref nr, .int mrowMany, .int mroundOf, .int mroundFrom, .int mouts, .ref nm, .int mfromHour, .int mtoHour, .ref ns, .int mfrom, .int mto, .int msort, .int misFault, .int mdeep, .int mcoded, .int mlines, .ref nl, .ref nc, .ref nF, .ref np, .ref ntr, .ref nb, .int mbestCost, .ref nso, .ref nsi, .ref nit, .ref nsh, .ref nsf, .ref nss, .ref nrc, .int mtraced, .int mdealer, .int mnumber, .int mwhose, .int msize, .int misParted])), (nw, .inl (G.2.1, 1662, .inl vK)), (nk, .inl (G.2.1, 1662, .inl fnk))] → va_S A s.heap H locs → lv_has ls 2 [(1, .int (nI kP)), (0, .ref h0)] → W p l e (RM 1 0 0) s m ([.ref h0] : List Value).toArray below meth c H locs 0 0 (MQ below (QI G (fun (r : Int32) (u : (Nat → Int32)) => (r = 1) ∧ (NI u ∧ VI u ∧ SCX u (fnk 0) (fnk 1) (fnk 2) (fnk 3) (fnk 4) (fnk 5) (fnk 8) (fnk 9) (fnk 10) (fnk 11) ∧ AG 1662 fnk u)) (fun u : (Nat → Int32) => [(h0, .inr (12, [.ref nw, .ref nk, .int 1, .ref nt, .int mtaped, .ref nr, .int mrowMany, .int mroundOf, .int mroundFrom, .int mouts, .ref nm, .int mfromHour, .int mtoHour, .ref ns, .int mfrom, .int mto, .int msort, .int misFault, .int mdeep, .int mcoded, .int mlines, .ref nl, .ref nc, .ref nF, .ref np, .ref ntr, .ref nb, .int mbestCost, .ref nso, .ref nsi, .ref nit, .ref nsh, .ref nsf, .ref nss, .ref nrc, .int mtraced, .int mdealer, .int mnumber, .int mwhose, .int msize, .int misParted])), (nw, .inl (G.2.1, 1662, .inl u)), (nk, .inl (G.2.1, 1662, .inl fnk))]) A) ([.ref h0] : List Value).toArray s 0 0 A) (F0 m 12 ls []) := by
    intro nP
    induction nP with
    | zero =>
      intro kP vK H locs ls hkP hag hP hD hS hl
      obtain rfl : 1662 = kP := by omega
      have hl : lv_has ls 2 [(1, .int 1662), (0, .ref h0)] := hl
      refine lv_iload_n hx hb dX12_again_12 rfl (lv_at hl 0 rfl) ?_
      refine lv_sipush (v := 1662) hx hb dX12_again_13 (by decide) ?_
      refine lv_icmp_ge (tgt := 37) hx hb dX12_again_16 (by decide) (fun _ => ?_) (fun c9 => absurd (by decide) c9)
      refine lv_iconst (v := 1) hx hb dX12_again_37 (by decide) ?_
      exact RI (v := 1) hC hP hD hS [0, 1, 2] vK rfl rfl (by decide) (⟨rfl, ⟨AG.NI hag hNk, AG.VI hag hVk, AG.SC hag, hag⟩⟩) rfl dX12_again_38
    | succ nP ihP =>
      intro kP vK H locs ls hkP hag hP hD hS hl
      refine lv_iload_n hx hb dX12_again_12 rfl (lv_at hl 0 rfl) ?_
      refine lv_sipush (v := 1662) hx hb dX12_again_13 (by decide) ?_
      refine lv_icmp_ge (tgt := 37) hx hb dX12_again_16 (by decide) (fun c9 => absurd c9 (nI_ge (a := kP) (b := 1662) (by omega) (by omega))) (fun _ => ?_)
      refine lv_aload_n hx hb dX12_again_19 rfl (lv_at hl 1 rfl) ?_
      refine gf_X12_9 hC rfl hK hP 0 rfl rfl dX12_again_20 ?_
      refine lv_iload_n hx hb dX12_again_23 rfl (lv_at hl 0 rfl) ?_
      refine lv_aload_n hx hb dX12_again_24 rfl (lv_at hl 1 rfl) ?_
      refine gf_X12_13 hC rfl hK hP 0 rfl rfl dX12_again_25 ?_
      refine lv_iload_n hx hb dX12_again_28 rfl (lv_at hl 0 rfl) ?_
      refine ald hC hK hP 2 rfl (vp_in_nI (by omega) (by omega)) (k := kP) (nI_clamp (by omega)) (v := fnk kP) rfl dX12_again_29 ?_
      refine lv_topi (fun x6569 ex6569 => ?_)
      refine ast hC hK hP hD hS 1 (ws' := [(h0, .inr (12, [.ref nw, .ref nk, .int 1, .ref nt, .int mtaped, .ref nr, .int mrowMany, .int mroundOf, .int mroundFrom, .int mouts, .ref nm, .int mfromHour, .int mtoHour, .ref ns, .int mfrom, .int mto, .int msort, .int misFault, .int mdeep, .int mcoded, .int mlines, .ref nl, .ref nc, .ref nF, .ref np, .ref ntr, .ref nb, .int mbestCost, .ref nso, .ref nsi, .ref nit, .ref nsh, .ref nsf, .ref nss, .ref nrc, .int mtraced, .int mdealer, .int mnumber, .int mwhose, .int msize, .int misParted])), (nw, .inl (G.2.1, 1662, .inl (upd vK kP x6569))), (nk, .inl (G.2.1, 1662, .inl fnk))]) rfl (vp_in_nI (by omega) (by omega)) (k := kP) (nI_clamp (by omega)) (rfl) dX12_again_30 (fun H locs hP hD hS => ?_)
      refine lv_iinc (v := nI (kP + 1)) (lv' := [(1, .int (nI (kP + 1))), (0, .ref h0)]) hx hb dX12_again_31 hl (k := 0) rfl (nI_1 _) (by decide) rfl (fun ls hl => ?_)
      refine lv_goto (tgt := 12) hx hb dX12_again_34 (by decide) ?_
      exact ihP (kP + 1) (upd vK kP x6569) _ _ _ (by omega) (by first | assumption | exact Or.inl rfl | exact Or.inr rfl | exact AG.zero | exact AG.next (by assumption) (by assumption)) hP hD hS (lv_sub hl [0, 1] rfl)
  exact keyP 1662 0 fnw _ _ _ (by omega) (by first | assumption | exact Or.inl rfl | exact Or.inr rfl | exact AG.zero | exact AG.next (by assumption) (by assumption)) hP hD hS (lv_sub hl [0, 1] rfl)
